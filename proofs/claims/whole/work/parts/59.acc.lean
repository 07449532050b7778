/-! ===== accessors behind updaters ===== -/
theorem xB_bags_bags (s : SB) (v : Int32) : B_bags (uB_bags s v) = v := rfl
theorem xB_bagStall_bags (s : SB) (v : Int32) : B_bagStall (uB_bags s v) = B_bagStall s := rfl
theorem xB_bagHour_bags (s : SB) (v : Int32) : B_bagHour (uB_bags s v) = B_bagHour s := rfl
theorem xB_bagSort_bags (s : SB) (v : Int32) : B_bagSort (uB_bags s v) = B_bagSort s := rfl
theorem xB_bagTold_bags (s : SB) (v : Int32) : B_bagTold (uB_bags s v) = B_bagTold s := rfl
theorem xB_bagShort_bags (s : SB) (v : Int32) : B_bagShort (uB_bags s v) = B_bagShort s := rfl
theorem xB_bagSteps_bags (s : SB) (v : Int32) : B_bagSteps (uB_bags s v) = B_bagSteps s := rfl
theorem xB_trials_bags (s : SB) (v : Int32) : B_trials (uB_bags s v) = B_trials s := rfl
theorem xB_trialStall_bags (s : SB) (v : Int32) : B_trialStall (uB_bags s v) = B_trialStall s := rfl
theorem xB_trialDay_bags (s : SB) (v : Int32) : B_trialDay (uB_bags s v) = B_trialDay s := rfl
theorem xB_trialOff_bags (s : SB) (v : Int32) : B_trialOff (uB_bags s v) = B_trialOff s := rfl
theorem xB_looks_bags (s : SB) (v : Int32) : B_looks (uB_bags s v) = B_looks s := rfl
theorem xB_lookRows_bags (s : SB) (v : Int32) : B_lookRows (uB_bags s v) = B_lookRows s := rfl
theorem xB_lookAll_bags (s : SB) (v : Int32) : B_lookAll (uB_bags s v) = B_lookAll s := rfl
theorem xB_lot_bags (s : SB) (v : Int32) : B_lot (uB_bags s v) = B_lot s := rfl
theorem zB_bags (s : SB) (v w : Int32) : uB_bags (uB_bags s v) w = uB_bags s w := rfl
theorem xB_bags_bagStall (s : SB) (v : (Nat → Int32)) : B_bags (uB_bagStall s v) = B_bags s := rfl
theorem xB_bagStall_bagStall (s : SB) (v : (Nat → Int32)) : B_bagStall (uB_bagStall s v) = v := rfl
theorem xB_bagHour_bagStall (s : SB) (v : (Nat → Int32)) : B_bagHour (uB_bagStall s v) = B_bagHour s := rfl
theorem xB_bagSort_bagStall (s : SB) (v : (Nat → Int32)) : B_bagSort (uB_bagStall s v) = B_bagSort s := rfl
theorem xB_bagTold_bagStall (s : SB) (v : (Nat → Int32)) : B_bagTold (uB_bagStall s v) = B_bagTold s := rfl
theorem xB_bagShort_bagStall (s : SB) (v : (Nat → Int32)) : B_bagShort (uB_bagStall s v) = B_bagShort s := rfl
theorem xB_bagSteps_bagStall (s : SB) (v : (Nat → Int32)) : B_bagSteps (uB_bagStall s v) = B_bagSteps s := rfl
theorem xB_trials_bagStall (s : SB) (v : (Nat → Int32)) : B_trials (uB_bagStall s v) = B_trials s := rfl
theorem xB_trialStall_bagStall (s : SB) (v : (Nat → Int32)) : B_trialStall (uB_bagStall s v) = B_trialStall s := rfl
theorem xB_trialDay_bagStall (s : SB) (v : (Nat → Int32)) : B_trialDay (uB_bagStall s v) = B_trialDay s := rfl
theorem xB_trialOff_bagStall (s : SB) (v : (Nat → Int32)) : B_trialOff (uB_bagStall s v) = B_trialOff s := rfl
theorem xB_looks_bagStall (s : SB) (v : (Nat → Int32)) : B_looks (uB_bagStall s v) = B_looks s := rfl
theorem xB_lookRows_bagStall (s : SB) (v : (Nat → Int32)) : B_lookRows (uB_bagStall s v) = B_lookRows s := rfl
theorem xB_lookAll_bagStall (s : SB) (v : (Nat → Int32)) : B_lookAll (uB_bagStall s v) = B_lookAll s := rfl
theorem xB_lot_bagStall (s : SB) (v : (Nat → Int32)) : B_lot (uB_bagStall s v) = B_lot s := rfl
theorem zB_bagStall (s : SB) (v w : (Nat → Int32)) : uB_bagStall (uB_bagStall s v) w = uB_bagStall s w := rfl
theorem xB_bags_bagHour (s : SB) (v : (Nat → Int32)) : B_bags (uB_bagHour s v) = B_bags s := rfl
theorem xB_bagStall_bagHour (s : SB) (v : (Nat → Int32)) : B_bagStall (uB_bagHour s v) = B_bagStall s := rfl
theorem xB_bagHour_bagHour (s : SB) (v : (Nat → Int32)) : B_bagHour (uB_bagHour s v) = v := rfl
theorem xB_bagSort_bagHour (s : SB) (v : (Nat → Int32)) : B_bagSort (uB_bagHour s v) = B_bagSort s := rfl
theorem xB_bagTold_bagHour (s : SB) (v : (Nat → Int32)) : B_bagTold (uB_bagHour s v) = B_bagTold s := rfl
theorem xB_bagShort_bagHour (s : SB) (v : (Nat → Int32)) : B_bagShort (uB_bagHour s v) = B_bagShort s := rfl
theorem xB_bagSteps_bagHour (s : SB) (v : (Nat → Int32)) : B_bagSteps (uB_bagHour s v) = B_bagSteps s := rfl
theorem xB_trials_bagHour (s : SB) (v : (Nat → Int32)) : B_trials (uB_bagHour s v) = B_trials s := rfl
theorem xB_trialStall_bagHour (s : SB) (v : (Nat → Int32)) : B_trialStall (uB_bagHour s v) = B_trialStall s := rfl
theorem xB_trialDay_bagHour (s : SB) (v : (Nat → Int32)) : B_trialDay (uB_bagHour s v) = B_trialDay s := rfl
theorem xB_trialOff_bagHour (s : SB) (v : (Nat → Int32)) : B_trialOff (uB_bagHour s v) = B_trialOff s := rfl
theorem xB_looks_bagHour (s : SB) (v : (Nat → Int32)) : B_looks (uB_bagHour s v) = B_looks s := rfl
theorem xB_lookRows_bagHour (s : SB) (v : (Nat → Int32)) : B_lookRows (uB_bagHour s v) = B_lookRows s := rfl
theorem xB_lookAll_bagHour (s : SB) (v : (Nat → Int32)) : B_lookAll (uB_bagHour s v) = B_lookAll s := rfl
theorem xB_lot_bagHour (s : SB) (v : (Nat → Int32)) : B_lot (uB_bagHour s v) = B_lot s := rfl
theorem zB_bagHour (s : SB) (v w : (Nat → Int32)) : uB_bagHour (uB_bagHour s v) w = uB_bagHour s w := rfl
theorem xB_bags_bagSort (s : SB) (v : (Nat → Int32)) : B_bags (uB_bagSort s v) = B_bags s := rfl
theorem xB_bagStall_bagSort (s : SB) (v : (Nat → Int32)) : B_bagStall (uB_bagSort s v) = B_bagStall s := rfl
theorem xB_bagHour_bagSort (s : SB) (v : (Nat → Int32)) : B_bagHour (uB_bagSort s v) = B_bagHour s := rfl
theorem xB_bagSort_bagSort (s : SB) (v : (Nat → Int32)) : B_bagSort (uB_bagSort s v) = v := rfl
theorem xB_bagTold_bagSort (s : SB) (v : (Nat → Int32)) : B_bagTold (uB_bagSort s v) = B_bagTold s := rfl
theorem xB_bagShort_bagSort (s : SB) (v : (Nat → Int32)) : B_bagShort (uB_bagSort s v) = B_bagShort s := rfl
theorem xB_bagSteps_bagSort (s : SB) (v : (Nat → Int32)) : B_bagSteps (uB_bagSort s v) = B_bagSteps s := rfl
theorem xB_trials_bagSort (s : SB) (v : (Nat → Int32)) : B_trials (uB_bagSort s v) = B_trials s := rfl
theorem xB_trialStall_bagSort (s : SB) (v : (Nat → Int32)) : B_trialStall (uB_bagSort s v) = B_trialStall s := rfl
theorem xB_trialDay_bagSort (s : SB) (v : (Nat → Int32)) : B_trialDay (uB_bagSort s v) = B_trialDay s := rfl
theorem xB_trialOff_bagSort (s : SB) (v : (Nat → Int32)) : B_trialOff (uB_bagSort s v) = B_trialOff s := rfl
theorem xB_looks_bagSort (s : SB) (v : (Nat → Int32)) : B_looks (uB_bagSort s v) = B_looks s := rfl
theorem xB_lookRows_bagSort (s : SB) (v : (Nat → Int32)) : B_lookRows (uB_bagSort s v) = B_lookRows s := rfl
theorem xB_lookAll_bagSort (s : SB) (v : (Nat → Int32)) : B_lookAll (uB_bagSort s v) = B_lookAll s := rfl
theorem xB_lot_bagSort (s : SB) (v : (Nat → Int32)) : B_lot (uB_bagSort s v) = B_lot s := rfl
theorem zB_bagSort (s : SB) (v w : (Nat → Int32)) : uB_bagSort (uB_bagSort s v) w = uB_bagSort s w := rfl
theorem xB_bags_bagTold (s : SB) (v : (Nat → Int32)) : B_bags (uB_bagTold s v) = B_bags s := rfl
theorem xB_bagStall_bagTold (s : SB) (v : (Nat → Int32)) : B_bagStall (uB_bagTold s v) = B_bagStall s := rfl
theorem xB_bagHour_bagTold (s : SB) (v : (Nat → Int32)) : B_bagHour (uB_bagTold s v) = B_bagHour s := rfl
theorem xB_bagSort_bagTold (s : SB) (v : (Nat → Int32)) : B_bagSort (uB_bagTold s v) = B_bagSort s := rfl
theorem xB_bagTold_bagTold (s : SB) (v : (Nat → Int32)) : B_bagTold (uB_bagTold s v) = v := rfl
theorem xB_bagShort_bagTold (s : SB) (v : (Nat → Int32)) : B_bagShort (uB_bagTold s v) = B_bagShort s := rfl
theorem xB_bagSteps_bagTold (s : SB) (v : (Nat → Int32)) : B_bagSteps (uB_bagTold s v) = B_bagSteps s := rfl
theorem xB_trials_bagTold (s : SB) (v : (Nat → Int32)) : B_trials (uB_bagTold s v) = B_trials s := rfl
theorem xB_trialStall_bagTold (s : SB) (v : (Nat → Int32)) : B_trialStall (uB_bagTold s v) = B_trialStall s := rfl
theorem xB_trialDay_bagTold (s : SB) (v : (Nat → Int32)) : B_trialDay (uB_bagTold s v) = B_trialDay s := rfl
theorem xB_trialOff_bagTold (s : SB) (v : (Nat → Int32)) : B_trialOff (uB_bagTold s v) = B_trialOff s := rfl
theorem xB_looks_bagTold (s : SB) (v : (Nat → Int32)) : B_looks (uB_bagTold s v) = B_looks s := rfl
theorem xB_lookRows_bagTold (s : SB) (v : (Nat → Int32)) : B_lookRows (uB_bagTold s v) = B_lookRows s := rfl
theorem xB_lookAll_bagTold (s : SB) (v : (Nat → Int32)) : B_lookAll (uB_bagTold s v) = B_lookAll s := rfl
theorem xB_lot_bagTold (s : SB) (v : (Nat → Int32)) : B_lot (uB_bagTold s v) = B_lot s := rfl
theorem zB_bagTold (s : SB) (v w : (Nat → Int32)) : uB_bagTold (uB_bagTold s v) w = uB_bagTold s w := rfl
theorem xB_bags_bagShort (s : SB) (v : (Nat → Int32)) : B_bags (uB_bagShort s v) = B_bags s := rfl
theorem xB_bagStall_bagShort (s : SB) (v : (Nat → Int32)) : B_bagStall (uB_bagShort s v) = B_bagStall s := rfl
theorem xB_bagHour_bagShort (s : SB) (v : (Nat → Int32)) : B_bagHour (uB_bagShort s v) = B_bagHour s := rfl
theorem xB_bagSort_bagShort (s : SB) (v : (Nat → Int32)) : B_bagSort (uB_bagShort s v) = B_bagSort s := rfl
theorem xB_bagTold_bagShort (s : SB) (v : (Nat → Int32)) : B_bagTold (uB_bagShort s v) = B_bagTold s := rfl
theorem xB_bagShort_bagShort (s : SB) (v : (Nat → Int32)) : B_bagShort (uB_bagShort s v) = v := rfl
theorem xB_bagSteps_bagShort (s : SB) (v : (Nat → Int32)) : B_bagSteps (uB_bagShort s v) = B_bagSteps s := rfl
theorem xB_trials_bagShort (s : SB) (v : (Nat → Int32)) : B_trials (uB_bagShort s v) = B_trials s := rfl
theorem xB_trialStall_bagShort (s : SB) (v : (Nat → Int32)) : B_trialStall (uB_bagShort s v) = B_trialStall s := rfl
theorem xB_trialDay_bagShort (s : SB) (v : (Nat → Int32)) : B_trialDay (uB_bagShort s v) = B_trialDay s := rfl
theorem xB_trialOff_bagShort (s : SB) (v : (Nat → Int32)) : B_trialOff (uB_bagShort s v) = B_trialOff s := rfl
theorem xB_looks_bagShort (s : SB) (v : (Nat → Int32)) : B_looks (uB_bagShort s v) = B_looks s := rfl
theorem xB_lookRows_bagShort (s : SB) (v : (Nat → Int32)) : B_lookRows (uB_bagShort s v) = B_lookRows s := rfl
theorem xB_lookAll_bagShort (s : SB) (v : (Nat → Int32)) : B_lookAll (uB_bagShort s v) = B_lookAll s := rfl
theorem xB_lot_bagShort (s : SB) (v : (Nat → Int32)) : B_lot (uB_bagShort s v) = B_lot s := rfl
theorem zB_bagShort (s : SB) (v w : (Nat → Int32)) : uB_bagShort (uB_bagShort s v) w = uB_bagShort s w := rfl
theorem xB_bags_bagSteps (s : SB) (v : (Nat → Int32)) : B_bags (uB_bagSteps s v) = B_bags s := rfl
theorem xB_bagStall_bagSteps (s : SB) (v : (Nat → Int32)) : B_bagStall (uB_bagSteps s v) = B_bagStall s := rfl
theorem xB_bagHour_bagSteps (s : SB) (v : (Nat → Int32)) : B_bagHour (uB_bagSteps s v) = B_bagHour s := rfl
theorem xB_bagSort_bagSteps (s : SB) (v : (Nat → Int32)) : B_bagSort (uB_bagSteps s v) = B_bagSort s := rfl
theorem xB_bagTold_bagSteps (s : SB) (v : (Nat → Int32)) : B_bagTold (uB_bagSteps s v) = B_bagTold s := rfl
theorem xB_bagShort_bagSteps (s : SB) (v : (Nat → Int32)) : B_bagShort (uB_bagSteps s v) = B_bagShort s := rfl
theorem xB_bagSteps_bagSteps (s : SB) (v : (Nat → Int32)) : B_bagSteps (uB_bagSteps s v) = v := rfl
theorem xB_trials_bagSteps (s : SB) (v : (Nat → Int32)) : B_trials (uB_bagSteps s v) = B_trials s := rfl
theorem xB_trialStall_bagSteps (s : SB) (v : (Nat → Int32)) : B_trialStall (uB_bagSteps s v) = B_trialStall s := rfl
theorem xB_trialDay_bagSteps (s : SB) (v : (Nat → Int32)) : B_trialDay (uB_bagSteps s v) = B_trialDay s := rfl
theorem xB_trialOff_bagSteps (s : SB) (v : (Nat → Int32)) : B_trialOff (uB_bagSteps s v) = B_trialOff s := rfl
theorem xB_looks_bagSteps (s : SB) (v : (Nat → Int32)) : B_looks (uB_bagSteps s v) = B_looks s := rfl
theorem xB_lookRows_bagSteps (s : SB) (v : (Nat → Int32)) : B_lookRows (uB_bagSteps s v) = B_lookRows s := rfl
theorem xB_lookAll_bagSteps (s : SB) (v : (Nat → Int32)) : B_lookAll (uB_bagSteps s v) = B_lookAll s := rfl
theorem xB_lot_bagSteps (s : SB) (v : (Nat → Int32)) : B_lot (uB_bagSteps s v) = B_lot s := rfl
theorem zB_bagSteps (s : SB) (v w : (Nat → Int32)) : uB_bagSteps (uB_bagSteps s v) w = uB_bagSteps s w := rfl
theorem xB_bags_trials (s : SB) (v : Int32) : B_bags (uB_trials s v) = B_bags s := rfl
theorem xB_bagStall_trials (s : SB) (v : Int32) : B_bagStall (uB_trials s v) = B_bagStall s := rfl
theorem xB_bagHour_trials (s : SB) (v : Int32) : B_bagHour (uB_trials s v) = B_bagHour s := rfl
theorem xB_bagSort_trials (s : SB) (v : Int32) : B_bagSort (uB_trials s v) = B_bagSort s := rfl
theorem xB_bagTold_trials (s : SB) (v : Int32) : B_bagTold (uB_trials s v) = B_bagTold s := rfl
theorem xB_bagShort_trials (s : SB) (v : Int32) : B_bagShort (uB_trials s v) = B_bagShort s := rfl
theorem xB_bagSteps_trials (s : SB) (v : Int32) : B_bagSteps (uB_trials s v) = B_bagSteps s := rfl
theorem xB_trials_trials (s : SB) (v : Int32) : B_trials (uB_trials s v) = v := rfl
theorem xB_trialStall_trials (s : SB) (v : Int32) : B_trialStall (uB_trials s v) = B_trialStall s := rfl
theorem xB_trialDay_trials (s : SB) (v : Int32) : B_trialDay (uB_trials s v) = B_trialDay s := rfl
theorem xB_trialOff_trials (s : SB) (v : Int32) : B_trialOff (uB_trials s v) = B_trialOff s := rfl
theorem xB_looks_trials (s : SB) (v : Int32) : B_looks (uB_trials s v) = B_looks s := rfl
theorem xB_lookRows_trials (s : SB) (v : Int32) : B_lookRows (uB_trials s v) = B_lookRows s := rfl
theorem xB_lookAll_trials (s : SB) (v : Int32) : B_lookAll (uB_trials s v) = B_lookAll s := rfl
theorem xB_lot_trials (s : SB) (v : Int32) : B_lot (uB_trials s v) = B_lot s := rfl
theorem zB_trials (s : SB) (v w : Int32) : uB_trials (uB_trials s v) w = uB_trials s w := rfl
theorem xB_bags_trialStall (s : SB) (v : (Nat → Int32)) : B_bags (uB_trialStall s v) = B_bags s := rfl
theorem xB_bagStall_trialStall (s : SB) (v : (Nat → Int32)) : B_bagStall (uB_trialStall s v) = B_bagStall s := rfl
theorem xB_bagHour_trialStall (s : SB) (v : (Nat → Int32)) : B_bagHour (uB_trialStall s v) = B_bagHour s := rfl
theorem xB_bagSort_trialStall (s : SB) (v : (Nat → Int32)) : B_bagSort (uB_trialStall s v) = B_bagSort s := rfl
theorem xB_bagTold_trialStall (s : SB) (v : (Nat → Int32)) : B_bagTold (uB_trialStall s v) = B_bagTold s := rfl
theorem xB_bagShort_trialStall (s : SB) (v : (Nat → Int32)) : B_bagShort (uB_trialStall s v) = B_bagShort s := rfl
theorem xB_bagSteps_trialStall (s : SB) (v : (Nat → Int32)) : B_bagSteps (uB_trialStall s v) = B_bagSteps s := rfl
theorem xB_trials_trialStall (s : SB) (v : (Nat → Int32)) : B_trials (uB_trialStall s v) = B_trials s := rfl
theorem xB_trialStall_trialStall (s : SB) (v : (Nat → Int32)) : B_trialStall (uB_trialStall s v) = v := rfl
theorem xB_trialDay_trialStall (s : SB) (v : (Nat → Int32)) : B_trialDay (uB_trialStall s v) = B_trialDay s := rfl
theorem xB_trialOff_trialStall (s : SB) (v : (Nat → Int32)) : B_trialOff (uB_trialStall s v) = B_trialOff s := rfl
theorem xB_looks_trialStall (s : SB) (v : (Nat → Int32)) : B_looks (uB_trialStall s v) = B_looks s := rfl
theorem xB_lookRows_trialStall (s : SB) (v : (Nat → Int32)) : B_lookRows (uB_trialStall s v) = B_lookRows s := rfl
theorem xB_lookAll_trialStall (s : SB) (v : (Nat → Int32)) : B_lookAll (uB_trialStall s v) = B_lookAll s := rfl
theorem xB_lot_trialStall (s : SB) (v : (Nat → Int32)) : B_lot (uB_trialStall s v) = B_lot s := rfl
theorem zB_trialStall (s : SB) (v w : (Nat → Int32)) : uB_trialStall (uB_trialStall s v) w = uB_trialStall s w := rfl
theorem xB_bags_trialDay (s : SB) (v : (Nat → Int32)) : B_bags (uB_trialDay s v) = B_bags s := rfl
theorem xB_bagStall_trialDay (s : SB) (v : (Nat → Int32)) : B_bagStall (uB_trialDay s v) = B_bagStall s := rfl
theorem xB_bagHour_trialDay (s : SB) (v : (Nat → Int32)) : B_bagHour (uB_trialDay s v) = B_bagHour s := rfl
theorem xB_bagSort_trialDay (s : SB) (v : (Nat → Int32)) : B_bagSort (uB_trialDay s v) = B_bagSort s := rfl
theorem xB_bagTold_trialDay (s : SB) (v : (Nat → Int32)) : B_bagTold (uB_trialDay s v) = B_bagTold s := rfl
theorem xB_bagShort_trialDay (s : SB) (v : (Nat → Int32)) : B_bagShort (uB_trialDay s v) = B_bagShort s := rfl
theorem xB_bagSteps_trialDay (s : SB) (v : (Nat → Int32)) : B_bagSteps (uB_trialDay s v) = B_bagSteps s := rfl
theorem xB_trials_trialDay (s : SB) (v : (Nat → Int32)) : B_trials (uB_trialDay s v) = B_trials s := rfl
theorem xB_trialStall_trialDay (s : SB) (v : (Nat → Int32)) : B_trialStall (uB_trialDay s v) = B_trialStall s := rfl
theorem xB_trialDay_trialDay (s : SB) (v : (Nat → Int32)) : B_trialDay (uB_trialDay s v) = v := rfl
theorem xB_trialOff_trialDay (s : SB) (v : (Nat → Int32)) : B_trialOff (uB_trialDay s v) = B_trialOff s := rfl
theorem xB_looks_trialDay (s : SB) (v : (Nat → Int32)) : B_looks (uB_trialDay s v) = B_looks s := rfl
theorem xB_lookRows_trialDay (s : SB) (v : (Nat → Int32)) : B_lookRows (uB_trialDay s v) = B_lookRows s := rfl
theorem xB_lookAll_trialDay (s : SB) (v : (Nat → Int32)) : B_lookAll (uB_trialDay s v) = B_lookAll s := rfl
theorem xB_lot_trialDay (s : SB) (v : (Nat → Int32)) : B_lot (uB_trialDay s v) = B_lot s := rfl
theorem zB_trialDay (s : SB) (v w : (Nat → Int32)) : uB_trialDay (uB_trialDay s v) w = uB_trialDay s w := rfl
theorem xB_bags_trialOff (s : SB) (v : (Nat → Int32)) : B_bags (uB_trialOff s v) = B_bags s := rfl
theorem xB_bagStall_trialOff (s : SB) (v : (Nat → Int32)) : B_bagStall (uB_trialOff s v) = B_bagStall s := rfl
theorem xB_bagHour_trialOff (s : SB) (v : (Nat → Int32)) : B_bagHour (uB_trialOff s v) = B_bagHour s := rfl
theorem xB_bagSort_trialOff (s : SB) (v : (Nat → Int32)) : B_bagSort (uB_trialOff s v) = B_bagSort s := rfl
theorem xB_bagTold_trialOff (s : SB) (v : (Nat → Int32)) : B_bagTold (uB_trialOff s v) = B_bagTold s := rfl
theorem xB_bagShort_trialOff (s : SB) (v : (Nat → Int32)) : B_bagShort (uB_trialOff s v) = B_bagShort s := rfl
theorem xB_bagSteps_trialOff (s : SB) (v : (Nat → Int32)) : B_bagSteps (uB_trialOff s v) = B_bagSteps s := rfl
theorem xB_trials_trialOff (s : SB) (v : (Nat → Int32)) : B_trials (uB_trialOff s v) = B_trials s := rfl
theorem xB_trialStall_trialOff (s : SB) (v : (Nat → Int32)) : B_trialStall (uB_trialOff s v) = B_trialStall s := rfl
theorem xB_trialDay_trialOff (s : SB) (v : (Nat → Int32)) : B_trialDay (uB_trialOff s v) = B_trialDay s := rfl
theorem xB_trialOff_trialOff (s : SB) (v : (Nat → Int32)) : B_trialOff (uB_trialOff s v) = v := rfl
theorem xB_looks_trialOff (s : SB) (v : (Nat → Int32)) : B_looks (uB_trialOff s v) = B_looks s := rfl
theorem xB_lookRows_trialOff (s : SB) (v : (Nat → Int32)) : B_lookRows (uB_trialOff s v) = B_lookRows s := rfl
theorem xB_lookAll_trialOff (s : SB) (v : (Nat → Int32)) : B_lookAll (uB_trialOff s v) = B_lookAll s := rfl
theorem xB_lot_trialOff (s : SB) (v : (Nat → Int32)) : B_lot (uB_trialOff s v) = B_lot s := rfl
theorem zB_trialOff (s : SB) (v w : (Nat → Int32)) : uB_trialOff (uB_trialOff s v) w = uB_trialOff s w := rfl
theorem xB_bags_looks (s : SB) (v : Int32) : B_bags (uB_looks s v) = B_bags s := rfl
theorem xB_bagStall_looks (s : SB) (v : Int32) : B_bagStall (uB_looks s v) = B_bagStall s := rfl
theorem xB_bagHour_looks (s : SB) (v : Int32) : B_bagHour (uB_looks s v) = B_bagHour s := rfl
theorem xB_bagSort_looks (s : SB) (v : Int32) : B_bagSort (uB_looks s v) = B_bagSort s := rfl
theorem xB_bagTold_looks (s : SB) (v : Int32) : B_bagTold (uB_looks s v) = B_bagTold s := rfl
theorem xB_bagShort_looks (s : SB) (v : Int32) : B_bagShort (uB_looks s v) = B_bagShort s := rfl
theorem xB_bagSteps_looks (s : SB) (v : Int32) : B_bagSteps (uB_looks s v) = B_bagSteps s := rfl
theorem xB_trials_looks (s : SB) (v : Int32) : B_trials (uB_looks s v) = B_trials s := rfl
theorem xB_trialStall_looks (s : SB) (v : Int32) : B_trialStall (uB_looks s v) = B_trialStall s := rfl
theorem xB_trialDay_looks (s : SB) (v : Int32) : B_trialDay (uB_looks s v) = B_trialDay s := rfl
theorem xB_trialOff_looks (s : SB) (v : Int32) : B_trialOff (uB_looks s v) = B_trialOff s := rfl
theorem xB_looks_looks (s : SB) (v : Int32) : B_looks (uB_looks s v) = v := rfl
theorem xB_lookRows_looks (s : SB) (v : Int32) : B_lookRows (uB_looks s v) = B_lookRows s := rfl
theorem xB_lookAll_looks (s : SB) (v : Int32) : B_lookAll (uB_looks s v) = B_lookAll s := rfl
theorem xB_lot_looks (s : SB) (v : Int32) : B_lot (uB_looks s v) = B_lot s := rfl
theorem zB_looks (s : SB) (v w : Int32) : uB_looks (uB_looks s v) w = uB_looks s w := rfl
theorem xB_bags_lookRows (s : SB) (v : Int64) : B_bags (uB_lookRows s v) = B_bags s := rfl
theorem xB_bagStall_lookRows (s : SB) (v : Int64) : B_bagStall (uB_lookRows s v) = B_bagStall s := rfl
theorem xB_bagHour_lookRows (s : SB) (v : Int64) : B_bagHour (uB_lookRows s v) = B_bagHour s := rfl
theorem xB_bagSort_lookRows (s : SB) (v : Int64) : B_bagSort (uB_lookRows s v) = B_bagSort s := rfl
theorem xB_bagTold_lookRows (s : SB) (v : Int64) : B_bagTold (uB_lookRows s v) = B_bagTold s := rfl
theorem xB_bagShort_lookRows (s : SB) (v : Int64) : B_bagShort (uB_lookRows s v) = B_bagShort s := rfl
theorem xB_bagSteps_lookRows (s : SB) (v : Int64) : B_bagSteps (uB_lookRows s v) = B_bagSteps s := rfl
theorem xB_trials_lookRows (s : SB) (v : Int64) : B_trials (uB_lookRows s v) = B_trials s := rfl
theorem xB_trialStall_lookRows (s : SB) (v : Int64) : B_trialStall (uB_lookRows s v) = B_trialStall s := rfl
theorem xB_trialDay_lookRows (s : SB) (v : Int64) : B_trialDay (uB_lookRows s v) = B_trialDay s := rfl
theorem xB_trialOff_lookRows (s : SB) (v : Int64) : B_trialOff (uB_lookRows s v) = B_trialOff s := rfl
theorem xB_looks_lookRows (s : SB) (v : Int64) : B_looks (uB_lookRows s v) = B_looks s := rfl
theorem xB_lookRows_lookRows (s : SB) (v : Int64) : B_lookRows (uB_lookRows s v) = v := rfl
theorem xB_lookAll_lookRows (s : SB) (v : Int64) : B_lookAll (uB_lookRows s v) = B_lookAll s := rfl
theorem xB_lot_lookRows (s : SB) (v : Int64) : B_lot (uB_lookRows s v) = B_lot s := rfl
theorem zB_lookRows (s : SB) (v w : Int64) : uB_lookRows (uB_lookRows s v) w = uB_lookRows s w := rfl
theorem xB_bags_lookAll (s : SB) (v : Int64) : B_bags (uB_lookAll s v) = B_bags s := rfl
theorem xB_bagStall_lookAll (s : SB) (v : Int64) : B_bagStall (uB_lookAll s v) = B_bagStall s := rfl
theorem xB_bagHour_lookAll (s : SB) (v : Int64) : B_bagHour (uB_lookAll s v) = B_bagHour s := rfl
theorem xB_bagSort_lookAll (s : SB) (v : Int64) : B_bagSort (uB_lookAll s v) = B_bagSort s := rfl
theorem xB_bagTold_lookAll (s : SB) (v : Int64) : B_bagTold (uB_lookAll s v) = B_bagTold s := rfl
theorem xB_bagShort_lookAll (s : SB) (v : Int64) : B_bagShort (uB_lookAll s v) = B_bagShort s := rfl
theorem xB_bagSteps_lookAll (s : SB) (v : Int64) : B_bagSteps (uB_lookAll s v) = B_bagSteps s := rfl
theorem xB_trials_lookAll (s : SB) (v : Int64) : B_trials (uB_lookAll s v) = B_trials s := rfl
theorem xB_trialStall_lookAll (s : SB) (v : Int64) : B_trialStall (uB_lookAll s v) = B_trialStall s := rfl
theorem xB_trialDay_lookAll (s : SB) (v : Int64) : B_trialDay (uB_lookAll s v) = B_trialDay s := rfl
theorem xB_trialOff_lookAll (s : SB) (v : Int64) : B_trialOff (uB_lookAll s v) = B_trialOff s := rfl
theorem xB_looks_lookAll (s : SB) (v : Int64) : B_looks (uB_lookAll s v) = B_looks s := rfl
theorem xB_lookRows_lookAll (s : SB) (v : Int64) : B_lookRows (uB_lookAll s v) = B_lookRows s := rfl
theorem xB_lookAll_lookAll (s : SB) (v : Int64) : B_lookAll (uB_lookAll s v) = v := rfl
theorem xB_lot_lookAll (s : SB) (v : Int64) : B_lot (uB_lookAll s v) = B_lot s := rfl
theorem zB_lookAll (s : SB) (v w : Int64) : uB_lookAll (uB_lookAll s v) w = uB_lookAll s w := rfl
theorem xB_bags_lot (s : SB) (v : Int32) : B_bags (uB_lot s v) = B_bags s := rfl
theorem xB_bagStall_lot (s : SB) (v : Int32) : B_bagStall (uB_lot s v) = B_bagStall s := rfl
theorem xB_bagHour_lot (s : SB) (v : Int32) : B_bagHour (uB_lot s v) = B_bagHour s := rfl
theorem xB_bagSort_lot (s : SB) (v : Int32) : B_bagSort (uB_lot s v) = B_bagSort s := rfl
theorem xB_bagTold_lot (s : SB) (v : Int32) : B_bagTold (uB_lot s v) = B_bagTold s := rfl
theorem xB_bagShort_lot (s : SB) (v : Int32) : B_bagShort (uB_lot s v) = B_bagShort s := rfl
theorem xB_bagSteps_lot (s : SB) (v : Int32) : B_bagSteps (uB_lot s v) = B_bagSteps s := rfl
theorem xB_trials_lot (s : SB) (v : Int32) : B_trials (uB_lot s v) = B_trials s := rfl
theorem xB_trialStall_lot (s : SB) (v : Int32) : B_trialStall (uB_lot s v) = B_trialStall s := rfl
theorem xB_trialDay_lot (s : SB) (v : Int32) : B_trialDay (uB_lot s v) = B_trialDay s := rfl
theorem xB_trialOff_lot (s : SB) (v : Int32) : B_trialOff (uB_lot s v) = B_trialOff s := rfl
theorem xB_looks_lot (s : SB) (v : Int32) : B_looks (uB_lot s v) = B_looks s := rfl
theorem xB_lookRows_lot (s : SB) (v : Int32) : B_lookRows (uB_lot s v) = B_lookRows s := rfl
theorem xB_lookAll_lot (s : SB) (v : Int32) : B_lookAll (uB_lot s v) = B_lookAll s := rfl
theorem xB_lot_lot (s : SB) (v : Int32) : B_lot (uB_lot s v) = v := rfl
theorem zB_lot (s : SB) (v w : Int32) : uB_lot (uB_lot s v) w = uB_lot s w := rfl
theorem xM_less_less (s : SM) (v : Int32) : M_less (uM_less s v) = v := rfl
theorem xM_just_less (s : SM) (v : Int32) : M_just (uM_less s v) = M_just s := rfl
theorem xM_more_less (s : SM) (v : Int32) : M_more (uM_less s v) = M_more s := rfl
theorem xM_stalls_less (s : SM) (v : Int32) : M_stalls (uM_less s v) = M_stalls s := rfl
theorem xM_step_less (s : SM) (v : Int32) : M_step (uM_less s v) = M_step s := rfl
theorem xM_dry_less (s : SM) (v : Int32) : M_dry (uM_less s v) = M_dry s := rfl
theorem xM_price_less (s : SM) (v : Int32) : M_price (uM_less s v) = M_price s := rfl
theorem xM_ways_less (s : SM) (v : Int32) : M_ways (uM_less s v) = M_ways s := rfl
theorem xM_shape_less (s : SM) (v : Int32) : M_shape (uM_less s v) = M_shape s := rfl
theorem xM_grains_less (s : SM) (v : Int32) : M_grains (uM_less s v) = M_grains s := rfl
theorem xM_oneIn_less (s : SM) (v : Int32) : M_oneIn (uM_less s v) = M_oneIn s := rfl
theorem xM_sorts_less (s : SM) (v : Int32) : M_sorts (uM_less s v) = M_sorts s := rfl
theorem zM_less (s : SM) (v w : Int32) : uM_less (uM_less s v) w = uM_less s w := rfl
theorem xM_less_just (s : SM) (v : Int32) : M_less (uM_just s v) = M_less s := rfl
theorem xM_just_just (s : SM) (v : Int32) : M_just (uM_just s v) = v := rfl
theorem xM_more_just (s : SM) (v : Int32) : M_more (uM_just s v) = M_more s := rfl
theorem xM_stalls_just (s : SM) (v : Int32) : M_stalls (uM_just s v) = M_stalls s := rfl
theorem xM_step_just (s : SM) (v : Int32) : M_step (uM_just s v) = M_step s := rfl
theorem xM_dry_just (s : SM) (v : Int32) : M_dry (uM_just s v) = M_dry s := rfl
theorem xM_price_just (s : SM) (v : Int32) : M_price (uM_just s v) = M_price s := rfl
theorem xM_ways_just (s : SM) (v : Int32) : M_ways (uM_just s v) = M_ways s := rfl
theorem xM_shape_just (s : SM) (v : Int32) : M_shape (uM_just s v) = M_shape s := rfl
theorem xM_grains_just (s : SM) (v : Int32) : M_grains (uM_just s v) = M_grains s := rfl
theorem xM_oneIn_just (s : SM) (v : Int32) : M_oneIn (uM_just s v) = M_oneIn s := rfl
theorem xM_sorts_just (s : SM) (v : Int32) : M_sorts (uM_just s v) = M_sorts s := rfl
theorem zM_just (s : SM) (v w : Int32) : uM_just (uM_just s v) w = uM_just s w := rfl
theorem xM_less_more (s : SM) (v : Int32) : M_less (uM_more s v) = M_less s := rfl
theorem xM_just_more (s : SM) (v : Int32) : M_just (uM_more s v) = M_just s := rfl
theorem xM_more_more (s : SM) (v : Int32) : M_more (uM_more s v) = v := rfl
theorem xM_stalls_more (s : SM) (v : Int32) : M_stalls (uM_more s v) = M_stalls s := rfl
theorem xM_step_more (s : SM) (v : Int32) : M_step (uM_more s v) = M_step s := rfl
theorem xM_dry_more (s : SM) (v : Int32) : M_dry (uM_more s v) = M_dry s := rfl
theorem xM_price_more (s : SM) (v : Int32) : M_price (uM_more s v) = M_price s := rfl
theorem xM_ways_more (s : SM) (v : Int32) : M_ways (uM_more s v) = M_ways s := rfl
theorem xM_shape_more (s : SM) (v : Int32) : M_shape (uM_more s v) = M_shape s := rfl
theorem xM_grains_more (s : SM) (v : Int32) : M_grains (uM_more s v) = M_grains s := rfl
theorem xM_oneIn_more (s : SM) (v : Int32) : M_oneIn (uM_more s v) = M_oneIn s := rfl
theorem xM_sorts_more (s : SM) (v : Int32) : M_sorts (uM_more s v) = M_sorts s := rfl
theorem zM_more (s : SM) (v w : Int32) : uM_more (uM_more s v) w = uM_more s w := rfl
theorem xM_less_stalls (s : SM) (v : Int32) : M_less (uM_stalls s v) = M_less s := rfl
theorem xM_just_stalls (s : SM) (v : Int32) : M_just (uM_stalls s v) = M_just s := rfl
theorem xM_more_stalls (s : SM) (v : Int32) : M_more (uM_stalls s v) = M_more s := rfl
theorem xM_stalls_stalls (s : SM) (v : Int32) : M_stalls (uM_stalls s v) = v := rfl
theorem xM_step_stalls (s : SM) (v : Int32) : M_step (uM_stalls s v) = M_step s := rfl
theorem xM_dry_stalls (s : SM) (v : Int32) : M_dry (uM_stalls s v) = M_dry s := rfl
theorem xM_price_stalls (s : SM) (v : Int32) : M_price (uM_stalls s v) = M_price s := rfl
theorem xM_ways_stalls (s : SM) (v : Int32) : M_ways (uM_stalls s v) = M_ways s := rfl
theorem xM_shape_stalls (s : SM) (v : Int32) : M_shape (uM_stalls s v) = M_shape s := rfl
theorem xM_grains_stalls (s : SM) (v : Int32) : M_grains (uM_stalls s v) = M_grains s := rfl
theorem xM_oneIn_stalls (s : SM) (v : Int32) : M_oneIn (uM_stalls s v) = M_oneIn s := rfl
theorem xM_sorts_stalls (s : SM) (v : Int32) : M_sorts (uM_stalls s v) = M_sorts s := rfl
theorem zM_stalls (s : SM) (v w : Int32) : uM_stalls (uM_stalls s v) w = uM_stalls s w := rfl
theorem xM_less_step (s : SM) (v : (Nat → Int32)) : M_less (uM_step s v) = M_less s := rfl
theorem xM_just_step (s : SM) (v : (Nat → Int32)) : M_just (uM_step s v) = M_just s := rfl
theorem xM_more_step (s : SM) (v : (Nat → Int32)) : M_more (uM_step s v) = M_more s := rfl
theorem xM_stalls_step (s : SM) (v : (Nat → Int32)) : M_stalls (uM_step s v) = M_stalls s := rfl
theorem xM_step_step (s : SM) (v : (Nat → Int32)) : M_step (uM_step s v) = v := rfl
theorem xM_dry_step (s : SM) (v : (Nat → Int32)) : M_dry (uM_step s v) = M_dry s := rfl
theorem xM_price_step (s : SM) (v : (Nat → Int32)) : M_price (uM_step s v) = M_price s := rfl
theorem xM_ways_step (s : SM) (v : (Nat → Int32)) : M_ways (uM_step s v) = M_ways s := rfl
theorem xM_shape_step (s : SM) (v : (Nat → Int32)) : M_shape (uM_step s v) = M_shape s := rfl
theorem xM_grains_step (s : SM) (v : (Nat → Int32)) : M_grains (uM_step s v) = M_grains s := rfl
theorem xM_oneIn_step (s : SM) (v : (Nat → Int32)) : M_oneIn (uM_step s v) = M_oneIn s := rfl
theorem xM_sorts_step (s : SM) (v : (Nat → Int32)) : M_sorts (uM_step s v) = M_sorts s := rfl
theorem zM_step (s : SM) (v w : (Nat → Int32)) : uM_step (uM_step s v) w = uM_step s w := rfl
theorem xM_less_dry (s : SM) (v : (Nat → Int32)) : M_less (uM_dry s v) = M_less s := rfl
theorem xM_just_dry (s : SM) (v : (Nat → Int32)) : M_just (uM_dry s v) = M_just s := rfl
theorem xM_more_dry (s : SM) (v : (Nat → Int32)) : M_more (uM_dry s v) = M_more s := rfl
theorem xM_stalls_dry (s : SM) (v : (Nat → Int32)) : M_stalls (uM_dry s v) = M_stalls s := rfl
theorem xM_step_dry (s : SM) (v : (Nat → Int32)) : M_step (uM_dry s v) = M_step s := rfl
theorem xM_dry_dry (s : SM) (v : (Nat → Int32)) : M_dry (uM_dry s v) = v := rfl
theorem xM_price_dry (s : SM) (v : (Nat → Int32)) : M_price (uM_dry s v) = M_price s := rfl
theorem xM_ways_dry (s : SM) (v : (Nat → Int32)) : M_ways (uM_dry s v) = M_ways s := rfl
theorem xM_shape_dry (s : SM) (v : (Nat → Int32)) : M_shape (uM_dry s v) = M_shape s := rfl
theorem xM_grains_dry (s : SM) (v : (Nat → Int32)) : M_grains (uM_dry s v) = M_grains s := rfl
theorem xM_oneIn_dry (s : SM) (v : (Nat → Int32)) : M_oneIn (uM_dry s v) = M_oneIn s := rfl
theorem xM_sorts_dry (s : SM) (v : (Nat → Int32)) : M_sorts (uM_dry s v) = M_sorts s := rfl
theorem zM_dry (s : SM) (v w : (Nat → Int32)) : uM_dry (uM_dry s v) w = uM_dry s w := rfl
theorem xM_less_price (s : SM) (v : (Nat → Int32)) : M_less (uM_price s v) = M_less s := rfl
theorem xM_just_price (s : SM) (v : (Nat → Int32)) : M_just (uM_price s v) = M_just s := rfl
theorem xM_more_price (s : SM) (v : (Nat → Int32)) : M_more (uM_price s v) = M_more s := rfl
theorem xM_stalls_price (s : SM) (v : (Nat → Int32)) : M_stalls (uM_price s v) = M_stalls s := rfl
theorem xM_step_price (s : SM) (v : (Nat → Int32)) : M_step (uM_price s v) = M_step s := rfl
theorem xM_dry_price (s : SM) (v : (Nat → Int32)) : M_dry (uM_price s v) = M_dry s := rfl
theorem xM_price_price (s : SM) (v : (Nat → Int32)) : M_price (uM_price s v) = v := rfl
theorem xM_ways_price (s : SM) (v : (Nat → Int32)) : M_ways (uM_price s v) = M_ways s := rfl
theorem xM_shape_price (s : SM) (v : (Nat → Int32)) : M_shape (uM_price s v) = M_shape s := rfl
theorem xM_grains_price (s : SM) (v : (Nat → Int32)) : M_grains (uM_price s v) = M_grains s := rfl
theorem xM_oneIn_price (s : SM) (v : (Nat → Int32)) : M_oneIn (uM_price s v) = M_oneIn s := rfl
theorem xM_sorts_price (s : SM) (v : (Nat → Int32)) : M_sorts (uM_price s v) = M_sorts s := rfl
theorem zM_price (s : SM) (v w : (Nat → Int32)) : uM_price (uM_price s v) w = uM_price s w := rfl
theorem xM_less_ways (s : SM) (v : Int32) : M_less (uM_ways s v) = M_less s := rfl
theorem xM_just_ways (s : SM) (v : Int32) : M_just (uM_ways s v) = M_just s := rfl
theorem xM_more_ways (s : SM) (v : Int32) : M_more (uM_ways s v) = M_more s := rfl
theorem xM_stalls_ways (s : SM) (v : Int32) : M_stalls (uM_ways s v) = M_stalls s := rfl
theorem xM_step_ways (s : SM) (v : Int32) : M_step (uM_ways s v) = M_step s := rfl
theorem xM_dry_ways (s : SM) (v : Int32) : M_dry (uM_ways s v) = M_dry s := rfl
theorem xM_price_ways (s : SM) (v : Int32) : M_price (uM_ways s v) = M_price s := rfl
theorem xM_ways_ways (s : SM) (v : Int32) : M_ways (uM_ways s v) = v := rfl
theorem xM_shape_ways (s : SM) (v : Int32) : M_shape (uM_ways s v) = M_shape s := rfl
theorem xM_grains_ways (s : SM) (v : Int32) : M_grains (uM_ways s v) = M_grains s := rfl
theorem xM_oneIn_ways (s : SM) (v : Int32) : M_oneIn (uM_ways s v) = M_oneIn s := rfl
theorem xM_sorts_ways (s : SM) (v : Int32) : M_sorts (uM_ways s v) = M_sorts s := rfl
theorem zM_ways (s : SM) (v w : Int32) : uM_ways (uM_ways s v) w = uM_ways s w := rfl
theorem xM_less_shape (s : SM) (v : (Nat → Int32)) : M_less (uM_shape s v) = M_less s := rfl
theorem xM_just_shape (s : SM) (v : (Nat → Int32)) : M_just (uM_shape s v) = M_just s := rfl
theorem xM_more_shape (s : SM) (v : (Nat → Int32)) : M_more (uM_shape s v) = M_more s := rfl
theorem xM_stalls_shape (s : SM) (v : (Nat → Int32)) : M_stalls (uM_shape s v) = M_stalls s := rfl
theorem xM_step_shape (s : SM) (v : (Nat → Int32)) : M_step (uM_shape s v) = M_step s := rfl
theorem xM_dry_shape (s : SM) (v : (Nat → Int32)) : M_dry (uM_shape s v) = M_dry s := rfl
theorem xM_price_shape (s : SM) (v : (Nat → Int32)) : M_price (uM_shape s v) = M_price s := rfl
theorem xM_ways_shape (s : SM) (v : (Nat → Int32)) : M_ways (uM_shape s v) = M_ways s := rfl
theorem xM_shape_shape (s : SM) (v : (Nat → Int32)) : M_shape (uM_shape s v) = v := rfl
theorem xM_grains_shape (s : SM) (v : (Nat → Int32)) : M_grains (uM_shape s v) = M_grains s := rfl
theorem xM_oneIn_shape (s : SM) (v : (Nat → Int32)) : M_oneIn (uM_shape s v) = M_oneIn s := rfl
theorem xM_sorts_shape (s : SM) (v : (Nat → Int32)) : M_sorts (uM_shape s v) = M_sorts s := rfl
theorem zM_shape (s : SM) (v w : (Nat → Int32)) : uM_shape (uM_shape s v) w = uM_shape s w := rfl
theorem xM_less_grains (s : SM) (v : (Nat → Int32)) : M_less (uM_grains s v) = M_less s := rfl
theorem xM_just_grains (s : SM) (v : (Nat → Int32)) : M_just (uM_grains s v) = M_just s := rfl
theorem xM_more_grains (s : SM) (v : (Nat → Int32)) : M_more (uM_grains s v) = M_more s := rfl
theorem xM_stalls_grains (s : SM) (v : (Nat → Int32)) : M_stalls (uM_grains s v) = M_stalls s := rfl
theorem xM_step_grains (s : SM) (v : (Nat → Int32)) : M_step (uM_grains s v) = M_step s := rfl
theorem xM_dry_grains (s : SM) (v : (Nat → Int32)) : M_dry (uM_grains s v) = M_dry s := rfl
theorem xM_price_grains (s : SM) (v : (Nat → Int32)) : M_price (uM_grains s v) = M_price s := rfl
theorem xM_ways_grains (s : SM) (v : (Nat → Int32)) : M_ways (uM_grains s v) = M_ways s := rfl
theorem xM_shape_grains (s : SM) (v : (Nat → Int32)) : M_shape (uM_grains s v) = M_shape s := rfl
theorem xM_grains_grains (s : SM) (v : (Nat → Int32)) : M_grains (uM_grains s v) = v := rfl
theorem xM_oneIn_grains (s : SM) (v : (Nat → Int32)) : M_oneIn (uM_grains s v) = M_oneIn s := rfl
theorem xM_sorts_grains (s : SM) (v : (Nat → Int32)) : M_sorts (uM_grains s v) = M_sorts s := rfl
theorem zM_grains (s : SM) (v w : (Nat → Int32)) : uM_grains (uM_grains s v) w = uM_grains s w := rfl
theorem xM_less_oneIn (s : SM) (v : (Nat → Int32)) : M_less (uM_oneIn s v) = M_less s := rfl
theorem xM_just_oneIn (s : SM) (v : (Nat → Int32)) : M_just (uM_oneIn s v) = M_just s := rfl
theorem xM_more_oneIn (s : SM) (v : (Nat → Int32)) : M_more (uM_oneIn s v) = M_more s := rfl
theorem xM_stalls_oneIn (s : SM) (v : (Nat → Int32)) : M_stalls (uM_oneIn s v) = M_stalls s := rfl
theorem xM_step_oneIn (s : SM) (v : (Nat → Int32)) : M_step (uM_oneIn s v) = M_step s := rfl
theorem xM_dry_oneIn (s : SM) (v : (Nat → Int32)) : M_dry (uM_oneIn s v) = M_dry s := rfl
theorem xM_price_oneIn (s : SM) (v : (Nat → Int32)) : M_price (uM_oneIn s v) = M_price s := rfl
theorem xM_ways_oneIn (s : SM) (v : (Nat → Int32)) : M_ways (uM_oneIn s v) = M_ways s := rfl
theorem xM_shape_oneIn (s : SM) (v : (Nat → Int32)) : M_shape (uM_oneIn s v) = M_shape s := rfl
theorem xM_grains_oneIn (s : SM) (v : (Nat → Int32)) : M_grains (uM_oneIn s v) = M_grains s := rfl
theorem xM_oneIn_oneIn (s : SM) (v : (Nat → Int32)) : M_oneIn (uM_oneIn s v) = v := rfl
theorem xM_sorts_oneIn (s : SM) (v : (Nat → Int32)) : M_sorts (uM_oneIn s v) = M_sorts s := rfl
theorem zM_oneIn (s : SM) (v w : (Nat → Int32)) : uM_oneIn (uM_oneIn s v) w = uM_oneIn s w := rfl
theorem xM_less_sorts (s : SM) (v : (Nat → Int32)) : M_less (uM_sorts s v) = M_less s := rfl
theorem xM_just_sorts (s : SM) (v : (Nat → Int32)) : M_just (uM_sorts s v) = M_just s := rfl
theorem xM_more_sorts (s : SM) (v : (Nat → Int32)) : M_more (uM_sorts s v) = M_more s := rfl
theorem xM_stalls_sorts (s : SM) (v : (Nat → Int32)) : M_stalls (uM_sorts s v) = M_stalls s := rfl
theorem xM_step_sorts (s : SM) (v : (Nat → Int32)) : M_step (uM_sorts s v) = M_step s := rfl
theorem xM_dry_sorts (s : SM) (v : (Nat → Int32)) : M_dry (uM_sorts s v) = M_dry s := rfl
theorem xM_price_sorts (s : SM) (v : (Nat → Int32)) : M_price (uM_sorts s v) = M_price s := rfl
theorem xM_ways_sorts (s : SM) (v : (Nat → Int32)) : M_ways (uM_sorts s v) = M_ways s := rfl
theorem xM_shape_sorts (s : SM) (v : (Nat → Int32)) : M_shape (uM_sorts s v) = M_shape s := rfl
theorem xM_grains_sorts (s : SM) (v : (Nat → Int32)) : M_grains (uM_sorts s v) = M_grains s := rfl
theorem xM_oneIn_sorts (s : SM) (v : (Nat → Int32)) : M_oneIn (uM_sorts s v) = M_oneIn s := rfl
theorem xM_sorts_sorts (s : SM) (v : (Nat → Int32)) : M_sorts (uM_sorts s v) = v := rfl
theorem zM_sorts (s : SM) (v w : (Nat → Int32)) : uM_sorts (uM_sorts s v) w = uM_sorts s w := rfl
theorem xR_text_text (s : SR) (v : (Nat → Int32)) : R_text (uR_text s v) = v := rfl
theorem xR_into_text (s : SR) (v : (Nat → Int32)) : R_into (uR_text s v) = R_into s := rfl
theorem xR_length_text (s : SR) (v : (Nat → Int32)) : R_length (uR_text s v) = R_length s := rfl
theorem xR_luckTold_text (s : SR) (v : (Nat → Int32)) : R_luckTold (uR_text s v) = R_luckTold s := rfl
theorem xR_sign_text (s : SR) (v : (Nat → Int32)) : R_sign (uR_text s v) = R_sign s := rfl
theorem xR_place_text (s : SR) (v : (Nat → Int32)) : R_place (uR_text s v) = R_place s := rfl
theorem xR_after_text (s : SR) (v : (Nat → Int32)) : R_after (uR_text s v) = R_after s := rfl
theorem xR_value_text (s : SR) (v : (Nat → Int32)) : R_value (uR_text s v) = R_value s := rfl
theorem xR_taken_text (s : SR) (v : (Nat → Int32)) : R_taken (uR_text s v) = R_taken s := rfl
theorem zR_text (s : SR) (v w : (Nat → Int32)) : uR_text (uR_text s v) w = uR_text s w := rfl
theorem xR_text_into (s : SR) (v : SM) : R_text (uR_into s v) = R_text s := rfl
theorem xR_into_into (s : SR) (v : SM) : R_into (uR_into s v) = v := rfl
theorem xR_length_into (s : SR) (v : SM) : R_length (uR_into s v) = R_length s := rfl
theorem xR_luckTold_into (s : SR) (v : SM) : R_luckTold (uR_into s v) = R_luckTold s := rfl
theorem xR_sign_into (s : SR) (v : SM) : R_sign (uR_into s v) = R_sign s := rfl
theorem xR_place_into (s : SR) (v : SM) : R_place (uR_into s v) = R_place s := rfl
theorem xR_after_into (s : SR) (v : SM) : R_after (uR_into s v) = R_after s := rfl
theorem xR_value_into (s : SR) (v : SM) : R_value (uR_into s v) = R_value s := rfl
theorem xR_taken_into (s : SR) (v : SM) : R_taken (uR_into s v) = R_taken s := rfl
theorem zR_into (s : SR) (v w : SM) : uR_into (uR_into s v) w = uR_into s w := rfl
theorem xR_text_length (s : SR) (v : Int32) : R_text (uR_length s v) = R_text s := rfl
theorem xR_into_length (s : SR) (v : Int32) : R_into (uR_length s v) = R_into s := rfl
theorem xR_length_length (s : SR) (v : Int32) : R_length (uR_length s v) = v := rfl
theorem xR_luckTold_length (s : SR) (v : Int32) : R_luckTold (uR_length s v) = R_luckTold s := rfl
theorem xR_sign_length (s : SR) (v : Int32) : R_sign (uR_length s v) = R_sign s := rfl
theorem xR_place_length (s : SR) (v : Int32) : R_place (uR_length s v) = R_place s := rfl
theorem xR_after_length (s : SR) (v : Int32) : R_after (uR_length s v) = R_after s := rfl
theorem xR_value_length (s : SR) (v : Int32) : R_value (uR_length s v) = R_value s := rfl
theorem xR_taken_length (s : SR) (v : Int32) : R_taken (uR_length s v) = R_taken s := rfl
theorem zR_length (s : SR) (v w : Int32) : uR_length (uR_length s v) w = uR_length s w := rfl
theorem xR_text_luckTold (s : SR) (v : Int32) : R_text (uR_luckTold s v) = R_text s := rfl
theorem xR_into_luckTold (s : SR) (v : Int32) : R_into (uR_luckTold s v) = R_into s := rfl
theorem xR_length_luckTold (s : SR) (v : Int32) : R_length (uR_luckTold s v) = R_length s := rfl
theorem xR_luckTold_luckTold (s : SR) (v : Int32) : R_luckTold (uR_luckTold s v) = v := rfl
theorem xR_sign_luckTold (s : SR) (v : Int32) : R_sign (uR_luckTold s v) = R_sign s := rfl
theorem xR_place_luckTold (s : SR) (v : Int32) : R_place (uR_luckTold s v) = R_place s := rfl
theorem xR_after_luckTold (s : SR) (v : Int32) : R_after (uR_luckTold s v) = R_after s := rfl
theorem xR_value_luckTold (s : SR) (v : Int32) : R_value (uR_luckTold s v) = R_value s := rfl
theorem xR_taken_luckTold (s : SR) (v : Int32) : R_taken (uR_luckTold s v) = R_taken s := rfl
theorem zR_luckTold (s : SR) (v w : Int32) : uR_luckTold (uR_luckTold s v) w = uR_luckTold s w := rfl
theorem xR_text_sign (s : SR) (v : Int32) : R_text (uR_sign s v) = R_text s := rfl
theorem xR_into_sign (s : SR) (v : Int32) : R_into (uR_sign s v) = R_into s := rfl
theorem xR_length_sign (s : SR) (v : Int32) : R_length (uR_sign s v) = R_length s := rfl
theorem xR_luckTold_sign (s : SR) (v : Int32) : R_luckTold (uR_sign s v) = R_luckTold s := rfl
theorem xR_sign_sign (s : SR) (v : Int32) : R_sign (uR_sign s v) = v := rfl
theorem xR_place_sign (s : SR) (v : Int32) : R_place (uR_sign s v) = R_place s := rfl
theorem xR_after_sign (s : SR) (v : Int32) : R_after (uR_sign s v) = R_after s := rfl
theorem xR_value_sign (s : SR) (v : Int32) : R_value (uR_sign s v) = R_value s := rfl
theorem xR_taken_sign (s : SR) (v : Int32) : R_taken (uR_sign s v) = R_taken s := rfl
theorem zR_sign (s : SR) (v w : Int32) : uR_sign (uR_sign s v) w = uR_sign s w := rfl
theorem xR_text_place (s : SR) (v : Int32) : R_text (uR_place s v) = R_text s := rfl
theorem xR_into_place (s : SR) (v : Int32) : R_into (uR_place s v) = R_into s := rfl
theorem xR_length_place (s : SR) (v : Int32) : R_length (uR_place s v) = R_length s := rfl
theorem xR_luckTold_place (s : SR) (v : Int32) : R_luckTold (uR_place s v) = R_luckTold s := rfl
theorem xR_sign_place (s : SR) (v : Int32) : R_sign (uR_place s v) = R_sign s := rfl
theorem xR_place_place (s : SR) (v : Int32) : R_place (uR_place s v) = v := rfl
theorem xR_after_place (s : SR) (v : Int32) : R_after (uR_place s v) = R_after s := rfl
theorem xR_value_place (s : SR) (v : Int32) : R_value (uR_place s v) = R_value s := rfl
theorem xR_taken_place (s : SR) (v : Int32) : R_taken (uR_place s v) = R_taken s := rfl
theorem zR_place (s : SR) (v w : Int32) : uR_place (uR_place s v) w = uR_place s w := rfl
theorem xR_text_after (s : SR) (v : Int32) : R_text (uR_after s v) = R_text s := rfl
theorem xR_into_after (s : SR) (v : Int32) : R_into (uR_after s v) = R_into s := rfl
theorem xR_length_after (s : SR) (v : Int32) : R_length (uR_after s v) = R_length s := rfl
theorem xR_luckTold_after (s : SR) (v : Int32) : R_luckTold (uR_after s v) = R_luckTold s := rfl
theorem xR_sign_after (s : SR) (v : Int32) : R_sign (uR_after s v) = R_sign s := rfl
theorem xR_place_after (s : SR) (v : Int32) : R_place (uR_after s v) = R_place s := rfl
theorem xR_after_after (s : SR) (v : Int32) : R_after (uR_after s v) = v := rfl
theorem xR_value_after (s : SR) (v : Int32) : R_value (uR_after s v) = R_value s := rfl
theorem xR_taken_after (s : SR) (v : Int32) : R_taken (uR_after s v) = R_taken s := rfl
theorem zR_after (s : SR) (v w : Int32) : uR_after (uR_after s v) w = uR_after s w := rfl
theorem xR_text_value (s : SR) (v : Int32) : R_text (uR_value s v) = R_text s := rfl
theorem xR_into_value (s : SR) (v : Int32) : R_into (uR_value s v) = R_into s := rfl
theorem xR_length_value (s : SR) (v : Int32) : R_length (uR_value s v) = R_length s := rfl
theorem xR_luckTold_value (s : SR) (v : Int32) : R_luckTold (uR_value s v) = R_luckTold s := rfl
theorem xR_sign_value (s : SR) (v : Int32) : R_sign (uR_value s v) = R_sign s := rfl
theorem xR_place_value (s : SR) (v : Int32) : R_place (uR_value s v) = R_place s := rfl
theorem xR_after_value (s : SR) (v : Int32) : R_after (uR_value s v) = R_after s := rfl
theorem xR_value_value (s : SR) (v : Int32) : R_value (uR_value s v) = v := rfl
theorem xR_taken_value (s : SR) (v : Int32) : R_taken (uR_value s v) = R_taken s := rfl
theorem zR_value (s : SR) (v w : Int32) : uR_value (uR_value s v) w = uR_value s w := rfl
theorem xR_text_taken (s : SR) (v : Int32) : R_text (uR_taken s v) = R_text s := rfl
theorem xR_into_taken (s : SR) (v : Int32) : R_into (uR_taken s v) = R_into s := rfl
theorem xR_length_taken (s : SR) (v : Int32) : R_length (uR_taken s v) = R_length s := rfl
theorem xR_luckTold_taken (s : SR) (v : Int32) : R_luckTold (uR_taken s v) = R_luckTold s := rfl
theorem xR_sign_taken (s : SR) (v : Int32) : R_sign (uR_taken s v) = R_sign s := rfl
theorem xR_place_taken (s : SR) (v : Int32) : R_place (uR_taken s v) = R_place s := rfl
theorem xR_after_taken (s : SR) (v : Int32) : R_after (uR_taken s v) = R_after s := rfl
theorem xR_value_taken (s : SR) (v : Int32) : R_value (uR_taken s v) = R_value s := rfl
theorem xR_taken_taken (s : SR) (v : Int32) : R_taken (uR_taken s v) = v := rfl
theorem zR_taken (s : SR) (v w : Int32) : uR_taken (uR_taken s v) w = uR_taken s w := rfl
theorem xV_bars_bars (s : SV) (v : (Nat → Int32)) : V_bars (uV_bars s v) = v := rfl
theorem xV_leastCost_bars (s : SV) (v : (Nat → Int32)) : V_leastCost (uV_bars s v) = V_leastCost s := rfl
theorem xV_choice_bars (s : SV) (v : (Nat → Int32)) : V_choice (uV_bars s v) = V_choice s := rfl
theorem zV_bars (s : SV) (v w : (Nat → Int32)) : uV_bars (uV_bars s v) w = uV_bars s w := rfl
theorem xV_bars_leastCost (s : SV) (v : (Nat → Int64)) : V_bars (uV_leastCost s v) = V_bars s := rfl
theorem xV_leastCost_leastCost (s : SV) (v : (Nat → Int64)) : V_leastCost (uV_leastCost s v) = v := rfl
theorem xV_choice_leastCost (s : SV) (v : (Nat → Int64)) : V_choice (uV_leastCost s v) = V_choice s := rfl
theorem zV_leastCost (s : SV) (v w : (Nat → Int64)) : uV_leastCost (uV_leastCost s v) w = uV_leastCost s w := rfl
theorem xV_bars_choice (s : SV) (v : (Nat → Int32)) : V_bars (uV_choice s v) = V_bars s := rfl
theorem xV_leastCost_choice (s : SV) (v : (Nat → Int32)) : V_leastCost (uV_choice s v) = V_leastCost s := rfl
theorem xV_choice_choice (s : SV) (v : (Nat → Int32)) : V_choice (uV_choice s v) = v := rfl
theorem zV_choice (s : SV) (v w : (Nat → Int32)) : uV_choice (uV_choice s v) w = uV_choice s w := rfl
theorem xT_textLength_textLength (s : ST) (v : Int32) : T_textLength (uT_textLength s v) = v := rfl
theorem xT_reader_textLength (s : ST) (v : Int32) : T_reader (uT_textLength s v) = T_reader s := rfl
theorem xT_market_textLength (s : ST) (v : Int32) : T_market (uT_textLength s v) = T_market s := rfl
theorem xT_beliefs_textLength (s : ST) (v : Int32) : T_beliefs (uT_textLength s v) = T_beliefs s := rfl
theorem xT_book_textLength (s : ST) (v : Int32) : T_book (uT_textLength s v) = T_book s := rfl
theorem xT_img0_textLength (s : ST) (v : Int32) : T_img0 (uT_textLength s v) = T_img0 s := rfl
theorem xT_img1_textLength (s : ST) (v : Int32) : T_img1 (uT_textLength s v) = T_img1 s := rfl
theorem xT_kept_textLength (s : ST) (v : Int32) : T_kept (uT_textLength s v) = T_kept s := rfl
theorem xT_honestRows_textLength (s : ST) (v : Int32) : T_honestRows (uT_textLength s v) = T_honestRows s := rfl
theorem xT_verdict_textLength (s : ST) (v : Int32) : T_verdict (uT_textLength s v) = T_verdict s := rfl
theorem xT_sortedOffs_textLength (s : ST) (v : Int32) : T_sortedOffs (uT_textLength s v) = T_sortedOffs s := rfl
theorem xT_chanceSteps_textLength (s : ST) (v : Int32) : T_chanceSteps (uT_textLength s v) = T_chanceSteps s := rfl
theorem xT_chanceOften_textLength (s : ST) (v : Int32) : T_chanceOften (uT_textLength s v) = T_chanceOften s := rfl
theorem xT_stepsSold_textLength (s : ST) (v : Int32) : T_stepsSold (uT_textLength s v) = T_stepsSold s := rfl
theorem xT_traced_textLength (s : ST) (v : Int32) : T_traced (uT_textLength s v) = T_traced s := rfl
theorem zT_textLength (s : ST) (v w : Int32) : uT_textLength (uT_textLength s v) w = uT_textLength s w := rfl
theorem xT_textLength_reader (s : ST) (v : SR) : T_textLength (uT_reader s v) = T_textLength s := rfl
theorem xT_reader_reader (s : ST) (v : SR) : T_reader (uT_reader s v) = v := rfl
theorem xT_market_reader (s : ST) (v : SR) : T_market (uT_reader s v) = T_market s := rfl
theorem xT_beliefs_reader (s : ST) (v : SR) : T_beliefs (uT_reader s v) = T_beliefs s := rfl
theorem xT_book_reader (s : ST) (v : SR) : T_book (uT_reader s v) = T_book s := rfl
theorem xT_img0_reader (s : ST) (v : SR) : T_img0 (uT_reader s v) = T_img0 s := rfl
theorem xT_img1_reader (s : ST) (v : SR) : T_img1 (uT_reader s v) = T_img1 s := rfl
theorem xT_kept_reader (s : ST) (v : SR) : T_kept (uT_reader s v) = T_kept s := rfl
theorem xT_honestRows_reader (s : ST) (v : SR) : T_honestRows (uT_reader s v) = T_honestRows s := rfl
theorem xT_verdict_reader (s : ST) (v : SR) : T_verdict (uT_reader s v) = T_verdict s := rfl
theorem xT_sortedOffs_reader (s : ST) (v : SR) : T_sortedOffs (uT_reader s v) = T_sortedOffs s := rfl
theorem xT_chanceSteps_reader (s : ST) (v : SR) : T_chanceSteps (uT_reader s v) = T_chanceSteps s := rfl
theorem xT_chanceOften_reader (s : ST) (v : SR) : T_chanceOften (uT_reader s v) = T_chanceOften s := rfl
theorem xT_stepsSold_reader (s : ST) (v : SR) : T_stepsSold (uT_reader s v) = T_stepsSold s := rfl
theorem xT_traced_reader (s : ST) (v : SR) : T_traced (uT_reader s v) = T_traced s := rfl
theorem zT_reader (s : ST) (v w : SR) : uT_reader (uT_reader s v) w = uT_reader s w := rfl
theorem xT_textLength_market (s : ST) (v : SM) : T_textLength (uT_market s v) = T_textLength s := rfl
theorem xT_reader_market (s : ST) (v : SM) : T_reader (uT_market s v) = T_reader s := rfl
theorem xT_market_market (s : ST) (v : SM) : T_market (uT_market s v) = v := rfl
theorem xT_beliefs_market (s : ST) (v : SM) : T_beliefs (uT_market s v) = T_beliefs s := rfl
theorem xT_book_market (s : ST) (v : SM) : T_book (uT_market s v) = T_book s := rfl
theorem xT_img0_market (s : ST) (v : SM) : T_img0 (uT_market s v) = T_img0 s := rfl
theorem xT_img1_market (s : ST) (v : SM) : T_img1 (uT_market s v) = T_img1 s := rfl
theorem xT_kept_market (s : ST) (v : SM) : T_kept (uT_market s v) = T_kept s := rfl
theorem xT_honestRows_market (s : ST) (v : SM) : T_honestRows (uT_market s v) = T_honestRows s := rfl
theorem xT_verdict_market (s : ST) (v : SM) : T_verdict (uT_market s v) = T_verdict s := rfl
theorem xT_sortedOffs_market (s : ST) (v : SM) : T_sortedOffs (uT_market s v) = T_sortedOffs s := rfl
theorem xT_chanceSteps_market (s : ST) (v : SM) : T_chanceSteps (uT_market s v) = T_chanceSteps s := rfl
theorem xT_chanceOften_market (s : ST) (v : SM) : T_chanceOften (uT_market s v) = T_chanceOften s := rfl
theorem xT_stepsSold_market (s : ST) (v : SM) : T_stepsSold (uT_market s v) = T_stepsSold s := rfl
theorem xT_traced_market (s : ST) (v : SM) : T_traced (uT_market s v) = T_traced s := rfl
theorem zT_market (s : ST) (v w : SM) : uT_market (uT_market s v) w = uT_market s w := rfl
theorem xT_textLength_beliefs (s : ST) (v : (Nat → Int32)) : T_textLength (uT_beliefs s v) = T_textLength s := rfl
theorem xT_reader_beliefs (s : ST) (v : (Nat → Int32)) : T_reader (uT_beliefs s v) = T_reader s := rfl
theorem xT_market_beliefs (s : ST) (v : (Nat → Int32)) : T_market (uT_beliefs s v) = T_market s := rfl
theorem xT_beliefs_beliefs (s : ST) (v : (Nat → Int32)) : T_beliefs (uT_beliefs s v) = v := rfl
theorem xT_book_beliefs (s : ST) (v : (Nat → Int32)) : T_book (uT_beliefs s v) = T_book s := rfl
theorem xT_img0_beliefs (s : ST) (v : (Nat → Int32)) : T_img0 (uT_beliefs s v) = T_img0 s := rfl
theorem xT_img1_beliefs (s : ST) (v : (Nat → Int32)) : T_img1 (uT_beliefs s v) = T_img1 s := rfl
theorem xT_kept_beliefs (s : ST) (v : (Nat → Int32)) : T_kept (uT_beliefs s v) = T_kept s := rfl
theorem xT_honestRows_beliefs (s : ST) (v : (Nat → Int32)) : T_honestRows (uT_beliefs s v) = T_honestRows s := rfl
theorem xT_verdict_beliefs (s : ST) (v : (Nat → Int32)) : T_verdict (uT_beliefs s v) = T_verdict s := rfl
theorem xT_sortedOffs_beliefs (s : ST) (v : (Nat → Int32)) : T_sortedOffs (uT_beliefs s v) = T_sortedOffs s := rfl
theorem xT_chanceSteps_beliefs (s : ST) (v : (Nat → Int32)) : T_chanceSteps (uT_beliefs s v) = T_chanceSteps s := rfl
theorem xT_chanceOften_beliefs (s : ST) (v : (Nat → Int32)) : T_chanceOften (uT_beliefs s v) = T_chanceOften s := rfl
theorem xT_stepsSold_beliefs (s : ST) (v : (Nat → Int32)) : T_stepsSold (uT_beliefs s v) = T_stepsSold s := rfl
theorem xT_traced_beliefs (s : ST) (v : (Nat → Int32)) : T_traced (uT_beliefs s v) = T_traced s := rfl
theorem zT_beliefs (s : ST) (v w : (Nat → Int32)) : uT_beliefs (uT_beliefs s v) w = uT_beliefs s w := rfl
theorem xT_textLength_book (s : ST) (v : SB) : T_textLength (uT_book s v) = T_textLength s := rfl
theorem xT_reader_book (s : ST) (v : SB) : T_reader (uT_book s v) = T_reader s := rfl
theorem xT_market_book (s : ST) (v : SB) : T_market (uT_book s v) = T_market s := rfl
theorem xT_beliefs_book (s : ST) (v : SB) : T_beliefs (uT_book s v) = T_beliefs s := rfl
theorem xT_book_book (s : ST) (v : SB) : T_book (uT_book s v) = v := rfl
theorem xT_img0_book (s : ST) (v : SB) : T_img0 (uT_book s v) = T_img0 s := rfl
theorem xT_img1_book (s : ST) (v : SB) : T_img1 (uT_book s v) = T_img1 s := rfl
theorem xT_kept_book (s : ST) (v : SB) : T_kept (uT_book s v) = T_kept s := rfl
theorem xT_honestRows_book (s : ST) (v : SB) : T_honestRows (uT_book s v) = T_honestRows s := rfl
theorem xT_verdict_book (s : ST) (v : SB) : T_verdict (uT_book s v) = T_verdict s := rfl
theorem xT_sortedOffs_book (s : ST) (v : SB) : T_sortedOffs (uT_book s v) = T_sortedOffs s := rfl
theorem xT_chanceSteps_book (s : ST) (v : SB) : T_chanceSteps (uT_book s v) = T_chanceSteps s := rfl
theorem xT_chanceOften_book (s : ST) (v : SB) : T_chanceOften (uT_book s v) = T_chanceOften s := rfl
theorem xT_stepsSold_book (s : ST) (v : SB) : T_stepsSold (uT_book s v) = T_stepsSold s := rfl
theorem xT_traced_book (s : ST) (v : SB) : T_traced (uT_book s v) = T_traced s := rfl
theorem zT_book (s : ST) (v w : SB) : uT_book (uT_book s v) w = uT_book s w := rfl
theorem xT_textLength_img0 (s : ST) (v : SB) : T_textLength (uT_img0 s v) = T_textLength s := rfl
theorem xT_reader_img0 (s : ST) (v : SB) : T_reader (uT_img0 s v) = T_reader s := rfl
theorem xT_market_img0 (s : ST) (v : SB) : T_market (uT_img0 s v) = T_market s := rfl
theorem xT_beliefs_img0 (s : ST) (v : SB) : T_beliefs (uT_img0 s v) = T_beliefs s := rfl
theorem xT_book_img0 (s : ST) (v : SB) : T_book (uT_img0 s v) = T_book s := rfl
theorem xT_img0_img0 (s : ST) (v : SB) : T_img0 (uT_img0 s v) = v := rfl
theorem xT_img1_img0 (s : ST) (v : SB) : T_img1 (uT_img0 s v) = T_img1 s := rfl
theorem xT_kept_img0 (s : ST) (v : SB) : T_kept (uT_img0 s v) = T_kept s := rfl
theorem xT_honestRows_img0 (s : ST) (v : SB) : T_honestRows (uT_img0 s v) = T_honestRows s := rfl
theorem xT_verdict_img0 (s : ST) (v : SB) : T_verdict (uT_img0 s v) = T_verdict s := rfl
theorem xT_sortedOffs_img0 (s : ST) (v : SB) : T_sortedOffs (uT_img0 s v) = T_sortedOffs s := rfl
theorem xT_chanceSteps_img0 (s : ST) (v : SB) : T_chanceSteps (uT_img0 s v) = T_chanceSteps s := rfl
theorem xT_chanceOften_img0 (s : ST) (v : SB) : T_chanceOften (uT_img0 s v) = T_chanceOften s := rfl
theorem xT_stepsSold_img0 (s : ST) (v : SB) : T_stepsSold (uT_img0 s v) = T_stepsSold s := rfl
theorem xT_traced_img0 (s : ST) (v : SB) : T_traced (uT_img0 s v) = T_traced s := rfl
theorem zT_img0 (s : ST) (v w : SB) : uT_img0 (uT_img0 s v) w = uT_img0 s w := rfl
theorem xT_textLength_img1 (s : ST) (v : SB) : T_textLength (uT_img1 s v) = T_textLength s := rfl
theorem xT_reader_img1 (s : ST) (v : SB) : T_reader (uT_img1 s v) = T_reader s := rfl
theorem xT_market_img1 (s : ST) (v : SB) : T_market (uT_img1 s v) = T_market s := rfl
theorem xT_beliefs_img1 (s : ST) (v : SB) : T_beliefs (uT_img1 s v) = T_beliefs s := rfl
theorem xT_book_img1 (s : ST) (v : SB) : T_book (uT_img1 s v) = T_book s := rfl
theorem xT_img0_img1 (s : ST) (v : SB) : T_img0 (uT_img1 s v) = T_img0 s := rfl
theorem xT_img1_img1 (s : ST) (v : SB) : T_img1 (uT_img1 s v) = v := rfl
theorem xT_kept_img1 (s : ST) (v : SB) : T_kept (uT_img1 s v) = T_kept s := rfl
theorem xT_honestRows_img1 (s : ST) (v : SB) : T_honestRows (uT_img1 s v) = T_honestRows s := rfl
theorem xT_verdict_img1 (s : ST) (v : SB) : T_verdict (uT_img1 s v) = T_verdict s := rfl
theorem xT_sortedOffs_img1 (s : ST) (v : SB) : T_sortedOffs (uT_img1 s v) = T_sortedOffs s := rfl
theorem xT_chanceSteps_img1 (s : ST) (v : SB) : T_chanceSteps (uT_img1 s v) = T_chanceSteps s := rfl
theorem xT_chanceOften_img1 (s : ST) (v : SB) : T_chanceOften (uT_img1 s v) = T_chanceOften s := rfl
theorem xT_stepsSold_img1 (s : ST) (v : SB) : T_stepsSold (uT_img1 s v) = T_stepsSold s := rfl
theorem xT_traced_img1 (s : ST) (v : SB) : T_traced (uT_img1 s v) = T_traced s := rfl
theorem zT_img1 (s : ST) (v w : SB) : uT_img1 (uT_img1 s v) w = uT_img1 s w := rfl
theorem xT_textLength_kept (s : ST) (v : (Nat → Int32)) : T_textLength (uT_kept s v) = T_textLength s := rfl
theorem xT_reader_kept (s : ST) (v : (Nat → Int32)) : T_reader (uT_kept s v) = T_reader s := rfl
theorem xT_market_kept (s : ST) (v : (Nat → Int32)) : T_market (uT_kept s v) = T_market s := rfl
theorem xT_beliefs_kept (s : ST) (v : (Nat → Int32)) : T_beliefs (uT_kept s v) = T_beliefs s := rfl
theorem xT_book_kept (s : ST) (v : (Nat → Int32)) : T_book (uT_kept s v) = T_book s := rfl
theorem xT_img0_kept (s : ST) (v : (Nat → Int32)) : T_img0 (uT_kept s v) = T_img0 s := rfl
theorem xT_img1_kept (s : ST) (v : (Nat → Int32)) : T_img1 (uT_kept s v) = T_img1 s := rfl
theorem xT_kept_kept (s : ST) (v : (Nat → Int32)) : T_kept (uT_kept s v) = v := rfl
theorem xT_honestRows_kept (s : ST) (v : (Nat → Int32)) : T_honestRows (uT_kept s v) = T_honestRows s := rfl
theorem xT_verdict_kept (s : ST) (v : (Nat → Int32)) : T_verdict (uT_kept s v) = T_verdict s := rfl
theorem xT_sortedOffs_kept (s : ST) (v : (Nat → Int32)) : T_sortedOffs (uT_kept s v) = T_sortedOffs s := rfl
theorem xT_chanceSteps_kept (s : ST) (v : (Nat → Int32)) : T_chanceSteps (uT_kept s v) = T_chanceSteps s := rfl
theorem xT_chanceOften_kept (s : ST) (v : (Nat → Int32)) : T_chanceOften (uT_kept s v) = T_chanceOften s := rfl
theorem xT_stepsSold_kept (s : ST) (v : (Nat → Int32)) : T_stepsSold (uT_kept s v) = T_stepsSold s := rfl
theorem xT_traced_kept (s : ST) (v : (Nat → Int32)) : T_traced (uT_kept s v) = T_traced s := rfl
theorem zT_kept (s : ST) (v w : (Nat → Int32)) : uT_kept (uT_kept s v) w = uT_kept s w := rfl
theorem xT_textLength_honestRows (s : ST) (v : SH) : T_textLength (uT_honestRows s v) = T_textLength s := rfl
theorem xT_reader_honestRows (s : ST) (v : SH) : T_reader (uT_honestRows s v) = T_reader s := rfl
theorem xT_market_honestRows (s : ST) (v : SH) : T_market (uT_honestRows s v) = T_market s := rfl
theorem xT_beliefs_honestRows (s : ST) (v : SH) : T_beliefs (uT_honestRows s v) = T_beliefs s := rfl
theorem xT_book_honestRows (s : ST) (v : SH) : T_book (uT_honestRows s v) = T_book s := rfl
theorem xT_img0_honestRows (s : ST) (v : SH) : T_img0 (uT_honestRows s v) = T_img0 s := rfl
theorem xT_img1_honestRows (s : ST) (v : SH) : T_img1 (uT_honestRows s v) = T_img1 s := rfl
theorem xT_kept_honestRows (s : ST) (v : SH) : T_kept (uT_honestRows s v) = T_kept s := rfl
theorem xT_honestRows_honestRows (s : ST) (v : SH) : T_honestRows (uT_honestRows s v) = v := rfl
theorem xT_verdict_honestRows (s : ST) (v : SH) : T_verdict (uT_honestRows s v) = T_verdict s := rfl
theorem xT_sortedOffs_honestRows (s : ST) (v : SH) : T_sortedOffs (uT_honestRows s v) = T_sortedOffs s := rfl
theorem xT_chanceSteps_honestRows (s : ST) (v : SH) : T_chanceSteps (uT_honestRows s v) = T_chanceSteps s := rfl
theorem xT_chanceOften_honestRows (s : ST) (v : SH) : T_chanceOften (uT_honestRows s v) = T_chanceOften s := rfl
theorem xT_stepsSold_honestRows (s : ST) (v : SH) : T_stepsSold (uT_honestRows s v) = T_stepsSold s := rfl
theorem xT_traced_honestRows (s : ST) (v : SH) : T_traced (uT_honestRows s v) = T_traced s := rfl
theorem zT_honestRows (s : ST) (v w : SH) : uT_honestRows (uT_honestRows s v) w = uT_honestRows s w := rfl
theorem xT_textLength_verdict (s : ST) (v : SV) : T_textLength (uT_verdict s v) = T_textLength s := rfl
theorem xT_reader_verdict (s : ST) (v : SV) : T_reader (uT_verdict s v) = T_reader s := rfl
theorem xT_market_verdict (s : ST) (v : SV) : T_market (uT_verdict s v) = T_market s := rfl
theorem xT_beliefs_verdict (s : ST) (v : SV) : T_beliefs (uT_verdict s v) = T_beliefs s := rfl
theorem xT_book_verdict (s : ST) (v : SV) : T_book (uT_verdict s v) = T_book s := rfl
theorem xT_img0_verdict (s : ST) (v : SV) : T_img0 (uT_verdict s v) = T_img0 s := rfl
theorem xT_img1_verdict (s : ST) (v : SV) : T_img1 (uT_verdict s v) = T_img1 s := rfl
theorem xT_kept_verdict (s : ST) (v : SV) : T_kept (uT_verdict s v) = T_kept s := rfl
theorem xT_honestRows_verdict (s : ST) (v : SV) : T_honestRows (uT_verdict s v) = T_honestRows s := rfl
theorem xT_verdict_verdict (s : ST) (v : SV) : T_verdict (uT_verdict s v) = v := rfl
theorem xT_sortedOffs_verdict (s : ST) (v : SV) : T_sortedOffs (uT_verdict s v) = T_sortedOffs s := rfl
theorem xT_chanceSteps_verdict (s : ST) (v : SV) : T_chanceSteps (uT_verdict s v) = T_chanceSteps s := rfl
theorem xT_chanceOften_verdict (s : ST) (v : SV) : T_chanceOften (uT_verdict s v) = T_chanceOften s := rfl
theorem xT_stepsSold_verdict (s : ST) (v : SV) : T_stepsSold (uT_verdict s v) = T_stepsSold s := rfl
theorem xT_traced_verdict (s : ST) (v : SV) : T_traced (uT_verdict s v) = T_traced s := rfl
theorem zT_verdict (s : ST) (v w : SV) : uT_verdict (uT_verdict s v) w = uT_verdict s w := rfl
theorem xT_textLength_sortedOffs (s : ST) (v : (Nat → Int32)) : T_textLength (uT_sortedOffs s v) = T_textLength s := rfl
theorem xT_reader_sortedOffs (s : ST) (v : (Nat → Int32)) : T_reader (uT_sortedOffs s v) = T_reader s := rfl
theorem xT_market_sortedOffs (s : ST) (v : (Nat → Int32)) : T_market (uT_sortedOffs s v) = T_market s := rfl
theorem xT_beliefs_sortedOffs (s : ST) (v : (Nat → Int32)) : T_beliefs (uT_sortedOffs s v) = T_beliefs s := rfl
theorem xT_book_sortedOffs (s : ST) (v : (Nat → Int32)) : T_book (uT_sortedOffs s v) = T_book s := rfl
theorem xT_img0_sortedOffs (s : ST) (v : (Nat → Int32)) : T_img0 (uT_sortedOffs s v) = T_img0 s := rfl
theorem xT_img1_sortedOffs (s : ST) (v : (Nat → Int32)) : T_img1 (uT_sortedOffs s v) = T_img1 s := rfl
theorem xT_kept_sortedOffs (s : ST) (v : (Nat → Int32)) : T_kept (uT_sortedOffs s v) = T_kept s := rfl
theorem xT_honestRows_sortedOffs (s : ST) (v : (Nat → Int32)) : T_honestRows (uT_sortedOffs s v) = T_honestRows s := rfl
theorem xT_verdict_sortedOffs (s : ST) (v : (Nat → Int32)) : T_verdict (uT_sortedOffs s v) = T_verdict s := rfl
theorem xT_sortedOffs_sortedOffs (s : ST) (v : (Nat → Int32)) : T_sortedOffs (uT_sortedOffs s v) = v := rfl
theorem xT_chanceSteps_sortedOffs (s : ST) (v : (Nat → Int32)) : T_chanceSteps (uT_sortedOffs s v) = T_chanceSteps s := rfl
theorem xT_chanceOften_sortedOffs (s : ST) (v : (Nat → Int32)) : T_chanceOften (uT_sortedOffs s v) = T_chanceOften s := rfl
theorem xT_stepsSold_sortedOffs (s : ST) (v : (Nat → Int32)) : T_stepsSold (uT_sortedOffs s v) = T_stepsSold s := rfl
theorem xT_traced_sortedOffs (s : ST) (v : (Nat → Int32)) : T_traced (uT_sortedOffs s v) = T_traced s := rfl
theorem zT_sortedOffs (s : ST) (v w : (Nat → Int32)) : uT_sortedOffs (uT_sortedOffs s v) w = uT_sortedOffs s w := rfl
theorem xT_textLength_chanceSteps (s : ST) (v : (Nat → Int32)) : T_textLength (uT_chanceSteps s v) = T_textLength s := rfl
theorem xT_reader_chanceSteps (s : ST) (v : (Nat → Int32)) : T_reader (uT_chanceSteps s v) = T_reader s := rfl
theorem xT_market_chanceSteps (s : ST) (v : (Nat → Int32)) : T_market (uT_chanceSteps s v) = T_market s := rfl
theorem xT_beliefs_chanceSteps (s : ST) (v : (Nat → Int32)) : T_beliefs (uT_chanceSteps s v) = T_beliefs s := rfl
theorem xT_book_chanceSteps (s : ST) (v : (Nat → Int32)) : T_book (uT_chanceSteps s v) = T_book s := rfl
theorem xT_img0_chanceSteps (s : ST) (v : (Nat → Int32)) : T_img0 (uT_chanceSteps s v) = T_img0 s := rfl
theorem xT_img1_chanceSteps (s : ST) (v : (Nat → Int32)) : T_img1 (uT_chanceSteps s v) = T_img1 s := rfl
theorem xT_kept_chanceSteps (s : ST) (v : (Nat → Int32)) : T_kept (uT_chanceSteps s v) = T_kept s := rfl
theorem xT_honestRows_chanceSteps (s : ST) (v : (Nat → Int32)) : T_honestRows (uT_chanceSteps s v) = T_honestRows s := rfl
theorem xT_verdict_chanceSteps (s : ST) (v : (Nat → Int32)) : T_verdict (uT_chanceSteps s v) = T_verdict s := rfl
theorem xT_sortedOffs_chanceSteps (s : ST) (v : (Nat → Int32)) : T_sortedOffs (uT_chanceSteps s v) = T_sortedOffs s := rfl
theorem xT_chanceSteps_chanceSteps (s : ST) (v : (Nat → Int32)) : T_chanceSteps (uT_chanceSteps s v) = v := rfl
theorem xT_chanceOften_chanceSteps (s : ST) (v : (Nat → Int32)) : T_chanceOften (uT_chanceSteps s v) = T_chanceOften s := rfl
theorem xT_stepsSold_chanceSteps (s : ST) (v : (Nat → Int32)) : T_stepsSold (uT_chanceSteps s v) = T_stepsSold s := rfl
theorem xT_traced_chanceSteps (s : ST) (v : (Nat → Int32)) : T_traced (uT_chanceSteps s v) = T_traced s := rfl
theorem zT_chanceSteps (s : ST) (v w : (Nat → Int32)) : uT_chanceSteps (uT_chanceSteps s v) w = uT_chanceSteps s w := rfl
theorem xT_textLength_chanceOften (s : ST) (v : (Nat → Int32)) : T_textLength (uT_chanceOften s v) = T_textLength s := rfl
theorem xT_reader_chanceOften (s : ST) (v : (Nat → Int32)) : T_reader (uT_chanceOften s v) = T_reader s := rfl
theorem xT_market_chanceOften (s : ST) (v : (Nat → Int32)) : T_market (uT_chanceOften s v) = T_market s := rfl
theorem xT_beliefs_chanceOften (s : ST) (v : (Nat → Int32)) : T_beliefs (uT_chanceOften s v) = T_beliefs s := rfl
theorem xT_book_chanceOften (s : ST) (v : (Nat → Int32)) : T_book (uT_chanceOften s v) = T_book s := rfl
theorem xT_img0_chanceOften (s : ST) (v : (Nat → Int32)) : T_img0 (uT_chanceOften s v) = T_img0 s := rfl
theorem xT_img1_chanceOften (s : ST) (v : (Nat → Int32)) : T_img1 (uT_chanceOften s v) = T_img1 s := rfl
theorem xT_kept_chanceOften (s : ST) (v : (Nat → Int32)) : T_kept (uT_chanceOften s v) = T_kept s := rfl
theorem xT_honestRows_chanceOften (s : ST) (v : (Nat → Int32)) : T_honestRows (uT_chanceOften s v) = T_honestRows s := rfl
theorem xT_verdict_chanceOften (s : ST) (v : (Nat → Int32)) : T_verdict (uT_chanceOften s v) = T_verdict s := rfl
theorem xT_sortedOffs_chanceOften (s : ST) (v : (Nat → Int32)) : T_sortedOffs (uT_chanceOften s v) = T_sortedOffs s := rfl
theorem xT_chanceSteps_chanceOften (s : ST) (v : (Nat → Int32)) : T_chanceSteps (uT_chanceOften s v) = T_chanceSteps s := rfl
theorem xT_chanceOften_chanceOften (s : ST) (v : (Nat → Int32)) : T_chanceOften (uT_chanceOften s v) = v := rfl
theorem xT_stepsSold_chanceOften (s : ST) (v : (Nat → Int32)) : T_stepsSold (uT_chanceOften s v) = T_stepsSold s := rfl
theorem xT_traced_chanceOften (s : ST) (v : (Nat → Int32)) : T_traced (uT_chanceOften s v) = T_traced s := rfl
theorem zT_chanceOften (s : ST) (v w : (Nat → Int32)) : uT_chanceOften (uT_chanceOften s v) w = uT_chanceOften s w := rfl
theorem xT_textLength_stepsSold (s : ST) (v : Int32) : T_textLength (uT_stepsSold s v) = T_textLength s := rfl
theorem xT_reader_stepsSold (s : ST) (v : Int32) : T_reader (uT_stepsSold s v) = T_reader s := rfl
theorem xT_market_stepsSold (s : ST) (v : Int32) : T_market (uT_stepsSold s v) = T_market s := rfl
theorem xT_beliefs_stepsSold (s : ST) (v : Int32) : T_beliefs (uT_stepsSold s v) = T_beliefs s := rfl
theorem xT_book_stepsSold (s : ST) (v : Int32) : T_book (uT_stepsSold s v) = T_book s := rfl
theorem xT_img0_stepsSold (s : ST) (v : Int32) : T_img0 (uT_stepsSold s v) = T_img0 s := rfl
theorem xT_img1_stepsSold (s : ST) (v : Int32) : T_img1 (uT_stepsSold s v) = T_img1 s := rfl
theorem xT_kept_stepsSold (s : ST) (v : Int32) : T_kept (uT_stepsSold s v) = T_kept s := rfl
theorem xT_honestRows_stepsSold (s : ST) (v : Int32) : T_honestRows (uT_stepsSold s v) = T_honestRows s := rfl
theorem xT_verdict_stepsSold (s : ST) (v : Int32) : T_verdict (uT_stepsSold s v) = T_verdict s := rfl
theorem xT_sortedOffs_stepsSold (s : ST) (v : Int32) : T_sortedOffs (uT_stepsSold s v) = T_sortedOffs s := rfl
theorem xT_chanceSteps_stepsSold (s : ST) (v : Int32) : T_chanceSteps (uT_stepsSold s v) = T_chanceSteps s := rfl
theorem xT_chanceOften_stepsSold (s : ST) (v : Int32) : T_chanceOften (uT_stepsSold s v) = T_chanceOften s := rfl
theorem xT_stepsSold_stepsSold (s : ST) (v : Int32) : T_stepsSold (uT_stepsSold s v) = v := rfl
theorem xT_traced_stepsSold (s : ST) (v : Int32) : T_traced (uT_stepsSold s v) = T_traced s := rfl
theorem zT_stepsSold (s : ST) (v w : Int32) : uT_stepsSold (uT_stepsSold s v) w = uT_stepsSold s w := rfl
theorem xT_textLength_traced (s : ST) (v : Int64) : T_textLength (uT_traced s v) = T_textLength s := rfl
theorem xT_reader_traced (s : ST) (v : Int64) : T_reader (uT_traced s v) = T_reader s := rfl
theorem xT_market_traced (s : ST) (v : Int64) : T_market (uT_traced s v) = T_market s := rfl
theorem xT_beliefs_traced (s : ST) (v : Int64) : T_beliefs (uT_traced s v) = T_beliefs s := rfl
theorem xT_book_traced (s : ST) (v : Int64) : T_book (uT_traced s v) = T_book s := rfl
theorem xT_img0_traced (s : ST) (v : Int64) : T_img0 (uT_traced s v) = T_img0 s := rfl
theorem xT_img1_traced (s : ST) (v : Int64) : T_img1 (uT_traced s v) = T_img1 s := rfl
theorem xT_kept_traced (s : ST) (v : Int64) : T_kept (uT_traced s v) = T_kept s := rfl
theorem xT_honestRows_traced (s : ST) (v : Int64) : T_honestRows (uT_traced s v) = T_honestRows s := rfl
theorem xT_verdict_traced (s : ST) (v : Int64) : T_verdict (uT_traced s v) = T_verdict s := rfl
theorem xT_sortedOffs_traced (s : ST) (v : Int64) : T_sortedOffs (uT_traced s v) = T_sortedOffs s := rfl
theorem xT_chanceSteps_traced (s : ST) (v : Int64) : T_chanceSteps (uT_traced s v) = T_chanceSteps s := rfl
theorem xT_chanceOften_traced (s : ST) (v : Int64) : T_chanceOften (uT_traced s v) = T_chanceOften s := rfl
theorem xT_stepsSold_traced (s : ST) (v : Int64) : T_stepsSold (uT_traced s v) = T_stepsSold s := rfl
theorem xT_traced_traced (s : ST) (v : Int64) : T_traced (uT_traced s v) = v := rfl
theorem zT_traced (s : ST) (v w : Int64) : uT_traced (uT_traced s v) w = uT_traced s w := rfl
theorem xO_thrown_thrown (s : SO) (v : Int32) : O_thrown (uO_thrown s v) = v := rfl
theorem xO_trace_thrown (s : SO) (v : Int32) : O_trace (uO_thrown s v) = O_trace s := rfl
theorem xO_s_thrown (s : SO) (v : Int32) : O_s (uO_thrown s v) = O_s s := rfl
theorem xO_kept_thrown (s : SO) (v : Int32) : O_kept (uO_thrown s v) = O_kept s := rfl
theorem xO_isKept_thrown (s : SO) (v : Int32) : O_isKept (uO_thrown s v) = O_isKept s := rfl
theorem xO_latest_thrown (s : SO) (v : Int32) : O_latest (uO_thrown s v) = O_latest s := rfl
theorem xO_text_thrown (s : SO) (v : Int32) : O_text (uO_thrown s v) = O_text s := rfl
theorem xO_typed_thrown (s : SO) (v : Int32) : O_typed (uO_thrown s v) = O_typed s := rfl
theorem xO_next_thrown (s : SO) (v : Int32) : O_next (uO_thrown s v) = O_next s := rfl
theorem xO_token_thrown (s : SO) (v : Int32) : O_token (uO_thrown s v) = O_token s := rfl
theorem xO_place_thrown (s : SO) (v : Int32) : O_place (uO_thrown s v) = O_place s := rfl
theorem xO_value_thrown (s : SO) (v : Int32) : O_value (uO_thrown s v) = O_value s := rfl
theorem xO_fault_thrown (s : SO) (v : Int32) : O_fault (uO_thrown s v) = O_fault s := rfl
theorem xO_luck_thrown (s : SO) (v : Int32) : O_luck (uO_thrown s v) = O_luck s := rfl
theorem xO_stall_thrown (s : SO) (v : Int32) : O_stall (uO_thrown s v) = O_stall s := rfl
theorem xO_way_thrown (s : SO) (v : Int32) : O_way (uO_thrown s v) = O_way s := rfl
theorem xO_stalls_thrown (s : SO) (v : Int32) : O_stalls (uO_thrown s v) = O_stalls s := rfl
theorem xO_ways_thrown (s : SO) (v : Int32) : O_ways (uO_thrown s v) = O_ways s := rfl
theorem xO_draftStalls_thrown (s : SO) (v : Int32) : O_draftStalls (uO_thrown s v) = O_draftStalls s := rfl
theorem xO_draftWays_thrown (s : SO) (v : Int32) : O_draftWays (uO_thrown s v) = O_draftWays s := rfl
theorem xO_beliefs_thrown (s : SO) (v : Int32) : O_beliefs (uO_thrown s v) = O_beliefs s := rfl
theorem xO_bars_thrown (s : SO) (v : Int32) : O_bars (uO_thrown s v) = O_bars s := rfl
theorem xO_triangle_thrown (s : SO) (v : Int32) : O_triangle (uO_thrown s v) = O_triangle s := rfl
theorem xO_costs_thrown (s : SO) (v : Int32) : O_costs (uO_thrown s v) = O_costs s := rfl
theorem xO_dones_thrown (s : SO) (v : Int32) : O_dones (uO_thrown s v) = O_dones s := rfl
theorem xO_row_thrown (s : SO) (v : Int32) : O_row (uO_thrown s v) = O_row s := rfl
theorem xO_up_thrown (s : SO) (v : Int32) : O_up (uO_thrown s v) = O_up s := rfl
theorem xO_down_thrown (s : SO) (v : Int32) : O_down (uO_thrown s v) = O_down s := rfl
theorem xO_soldSteps_thrown (s : SO) (v : Int32) : O_soldSteps (uO_thrown s v) = O_soldSteps s := rfl
theorem zO_thrown (s : SO) (v w : Int32) : uO_thrown (uO_thrown s v) w = uO_thrown s w := rfl
theorem xO_thrown_trace (s : SO) (v : Int64) : O_thrown (uO_trace s v) = O_thrown s := rfl
theorem xO_trace_trace (s : SO) (v : Int64) : O_trace (uO_trace s v) = v := rfl
theorem xO_s_trace (s : SO) (v : Int64) : O_s (uO_trace s v) = O_s s := rfl
theorem xO_kept_trace (s : SO) (v : Int64) : O_kept (uO_trace s v) = O_kept s := rfl
theorem xO_isKept_trace (s : SO) (v : Int64) : O_isKept (uO_trace s v) = O_isKept s := rfl
theorem xO_latest_trace (s : SO) (v : Int64) : O_latest (uO_trace s v) = O_latest s := rfl
theorem xO_text_trace (s : SO) (v : Int64) : O_text (uO_trace s v) = O_text s := rfl
theorem xO_typed_trace (s : SO) (v : Int64) : O_typed (uO_trace s v) = O_typed s := rfl
theorem xO_next_trace (s : SO) (v : Int64) : O_next (uO_trace s v) = O_next s := rfl
theorem xO_token_trace (s : SO) (v : Int64) : O_token (uO_trace s v) = O_token s := rfl
theorem xO_place_trace (s : SO) (v : Int64) : O_place (uO_trace s v) = O_place s := rfl
theorem xO_value_trace (s : SO) (v : Int64) : O_value (uO_trace s v) = O_value s := rfl
theorem xO_fault_trace (s : SO) (v : Int64) : O_fault (uO_trace s v) = O_fault s := rfl
theorem xO_luck_trace (s : SO) (v : Int64) : O_luck (uO_trace s v) = O_luck s := rfl
theorem xO_stall_trace (s : SO) (v : Int64) : O_stall (uO_trace s v) = O_stall s := rfl
theorem xO_way_trace (s : SO) (v : Int64) : O_way (uO_trace s v) = O_way s := rfl
theorem xO_stalls_trace (s : SO) (v : Int64) : O_stalls (uO_trace s v) = O_stalls s := rfl
theorem xO_ways_trace (s : SO) (v : Int64) : O_ways (uO_trace s v) = O_ways s := rfl
theorem xO_draftStalls_trace (s : SO) (v : Int64) : O_draftStalls (uO_trace s v) = O_draftStalls s := rfl
theorem xO_draftWays_trace (s : SO) (v : Int64) : O_draftWays (uO_trace s v) = O_draftWays s := rfl
theorem xO_beliefs_trace (s : SO) (v : Int64) : O_beliefs (uO_trace s v) = O_beliefs s := rfl
theorem xO_bars_trace (s : SO) (v : Int64) : O_bars (uO_trace s v) = O_bars s := rfl
theorem xO_triangle_trace (s : SO) (v : Int64) : O_triangle (uO_trace s v) = O_triangle s := rfl
theorem xO_costs_trace (s : SO) (v : Int64) : O_costs (uO_trace s v) = O_costs s := rfl
theorem xO_dones_trace (s : SO) (v : Int64) : O_dones (uO_trace s v) = O_dones s := rfl
theorem xO_row_trace (s : SO) (v : Int64) : O_row (uO_trace s v) = O_row s := rfl
theorem xO_up_trace (s : SO) (v : Int64) : O_up (uO_trace s v) = O_up s := rfl
theorem xO_down_trace (s : SO) (v : Int64) : O_down (uO_trace s v) = O_down s := rfl
theorem xO_soldSteps_trace (s : SO) (v : Int64) : O_soldSteps (uO_trace s v) = O_soldSteps s := rfl
theorem zO_trace (s : SO) (v w : Int64) : uO_trace (uO_trace s v) w = uO_trace s w := rfl
theorem xO_thrown_s (s : SO) (v : (Nat → Int32)) : O_thrown (uO_s s v) = O_thrown s := rfl
theorem xO_trace_s (s : SO) (v : (Nat → Int32)) : O_trace (uO_s s v) = O_trace s := rfl
theorem xO_s_s (s : SO) (v : (Nat → Int32)) : O_s (uO_s s v) = v := rfl
theorem xO_kept_s (s : SO) (v : (Nat → Int32)) : O_kept (uO_s s v) = O_kept s := rfl
theorem xO_isKept_s (s : SO) (v : (Nat → Int32)) : O_isKept (uO_s s v) = O_isKept s := rfl
theorem xO_latest_s (s : SO) (v : (Nat → Int32)) : O_latest (uO_s s v) = O_latest s := rfl
theorem xO_text_s (s : SO) (v : (Nat → Int32)) : O_text (uO_s s v) = O_text s := rfl
theorem xO_typed_s (s : SO) (v : (Nat → Int32)) : O_typed (uO_s s v) = O_typed s := rfl
theorem xO_next_s (s : SO) (v : (Nat → Int32)) : O_next (uO_s s v) = O_next s := rfl
theorem xO_token_s (s : SO) (v : (Nat → Int32)) : O_token (uO_s s v) = O_token s := rfl
theorem xO_place_s (s : SO) (v : (Nat → Int32)) : O_place (uO_s s v) = O_place s := rfl
theorem xO_value_s (s : SO) (v : (Nat → Int32)) : O_value (uO_s s v) = O_value s := rfl
theorem xO_fault_s (s : SO) (v : (Nat → Int32)) : O_fault (uO_s s v) = O_fault s := rfl
theorem xO_luck_s (s : SO) (v : (Nat → Int32)) : O_luck (uO_s s v) = O_luck s := rfl
theorem xO_stall_s (s : SO) (v : (Nat → Int32)) : O_stall (uO_s s v) = O_stall s := rfl
theorem xO_way_s (s : SO) (v : (Nat → Int32)) : O_way (uO_s s v) = O_way s := rfl
theorem xO_stalls_s (s : SO) (v : (Nat → Int32)) : O_stalls (uO_s s v) = O_stalls s := rfl
theorem xO_ways_s (s : SO) (v : (Nat → Int32)) : O_ways (uO_s s v) = O_ways s := rfl
theorem xO_draftStalls_s (s : SO) (v : (Nat → Int32)) : O_draftStalls (uO_s s v) = O_draftStalls s := rfl
theorem xO_draftWays_s (s : SO) (v : (Nat → Int32)) : O_draftWays (uO_s s v) = O_draftWays s := rfl
theorem xO_beliefs_s (s : SO) (v : (Nat → Int32)) : O_beliefs (uO_s s v) = O_beliefs s := rfl
theorem xO_bars_s (s : SO) (v : (Nat → Int32)) : O_bars (uO_s s v) = O_bars s := rfl
theorem xO_triangle_s (s : SO) (v : (Nat → Int32)) : O_triangle (uO_s s v) = O_triangle s := rfl
theorem xO_costs_s (s : SO) (v : (Nat → Int32)) : O_costs (uO_s s v) = O_costs s := rfl
theorem xO_dones_s (s : SO) (v : (Nat → Int32)) : O_dones (uO_s s v) = O_dones s := rfl
theorem xO_row_s (s : SO) (v : (Nat → Int32)) : O_row (uO_s s v) = O_row s := rfl
theorem xO_up_s (s : SO) (v : (Nat → Int32)) : O_up (uO_s s v) = O_up s := rfl
theorem xO_down_s (s : SO) (v : (Nat → Int32)) : O_down (uO_s s v) = O_down s := rfl
theorem xO_soldSteps_s (s : SO) (v : (Nat → Int32)) : O_soldSteps (uO_s s v) = O_soldSteps s := rfl
theorem zO_s (s : SO) (v w : (Nat → Int32)) : uO_s (uO_s s v) w = uO_s s w := rfl
theorem xO_thrown_kept (s : SO) (v : (Nat → Int32)) : O_thrown (uO_kept s v) = O_thrown s := rfl
theorem xO_trace_kept (s : SO) (v : (Nat → Int32)) : O_trace (uO_kept s v) = O_trace s := rfl
theorem xO_s_kept (s : SO) (v : (Nat → Int32)) : O_s (uO_kept s v) = O_s s := rfl
theorem xO_kept_kept (s : SO) (v : (Nat → Int32)) : O_kept (uO_kept s v) = v := rfl
theorem xO_isKept_kept (s : SO) (v : (Nat → Int32)) : O_isKept (uO_kept s v) = O_isKept s := rfl
theorem xO_latest_kept (s : SO) (v : (Nat → Int32)) : O_latest (uO_kept s v) = O_latest s := rfl
theorem xO_text_kept (s : SO) (v : (Nat → Int32)) : O_text (uO_kept s v) = O_text s := rfl
theorem xO_typed_kept (s : SO) (v : (Nat → Int32)) : O_typed (uO_kept s v) = O_typed s := rfl
theorem xO_next_kept (s : SO) (v : (Nat → Int32)) : O_next (uO_kept s v) = O_next s := rfl
theorem xO_token_kept (s : SO) (v : (Nat → Int32)) : O_token (uO_kept s v) = O_token s := rfl
theorem xO_place_kept (s : SO) (v : (Nat → Int32)) : O_place (uO_kept s v) = O_place s := rfl
theorem xO_value_kept (s : SO) (v : (Nat → Int32)) : O_value (uO_kept s v) = O_value s := rfl
theorem xO_fault_kept (s : SO) (v : (Nat → Int32)) : O_fault (uO_kept s v) = O_fault s := rfl
theorem xO_luck_kept (s : SO) (v : (Nat → Int32)) : O_luck (uO_kept s v) = O_luck s := rfl
theorem xO_stall_kept (s : SO) (v : (Nat → Int32)) : O_stall (uO_kept s v) = O_stall s := rfl
theorem xO_way_kept (s : SO) (v : (Nat → Int32)) : O_way (uO_kept s v) = O_way s := rfl
theorem xO_stalls_kept (s : SO) (v : (Nat → Int32)) : O_stalls (uO_kept s v) = O_stalls s := rfl
theorem xO_ways_kept (s : SO) (v : (Nat → Int32)) : O_ways (uO_kept s v) = O_ways s := rfl
theorem xO_draftStalls_kept (s : SO) (v : (Nat → Int32)) : O_draftStalls (uO_kept s v) = O_draftStalls s := rfl
theorem xO_draftWays_kept (s : SO) (v : (Nat → Int32)) : O_draftWays (uO_kept s v) = O_draftWays s := rfl
theorem xO_beliefs_kept (s : SO) (v : (Nat → Int32)) : O_beliefs (uO_kept s v) = O_beliefs s := rfl
theorem xO_bars_kept (s : SO) (v : (Nat → Int32)) : O_bars (uO_kept s v) = O_bars s := rfl
theorem xO_triangle_kept (s : SO) (v : (Nat → Int32)) : O_triangle (uO_kept s v) = O_triangle s := rfl
theorem xO_costs_kept (s : SO) (v : (Nat → Int32)) : O_costs (uO_kept s v) = O_costs s := rfl
theorem xO_dones_kept (s : SO) (v : (Nat → Int32)) : O_dones (uO_kept s v) = O_dones s := rfl
theorem xO_row_kept (s : SO) (v : (Nat → Int32)) : O_row (uO_kept s v) = O_row s := rfl
theorem xO_up_kept (s : SO) (v : (Nat → Int32)) : O_up (uO_kept s v) = O_up s := rfl
theorem xO_down_kept (s : SO) (v : (Nat → Int32)) : O_down (uO_kept s v) = O_down s := rfl
theorem xO_soldSteps_kept (s : SO) (v : (Nat → Int32)) : O_soldSteps (uO_kept s v) = O_soldSteps s := rfl
theorem zO_kept (s : SO) (v w : (Nat → Int32)) : uO_kept (uO_kept s v) w = uO_kept s w := rfl
theorem xO_thrown_isKept (s : SO) (v : (Nat → Int32)) : O_thrown (uO_isKept s v) = O_thrown s := rfl
theorem xO_trace_isKept (s : SO) (v : (Nat → Int32)) : O_trace (uO_isKept s v) = O_trace s := rfl
theorem xO_s_isKept (s : SO) (v : (Nat → Int32)) : O_s (uO_isKept s v) = O_s s := rfl
theorem xO_kept_isKept (s : SO) (v : (Nat → Int32)) : O_kept (uO_isKept s v) = O_kept s := rfl
theorem xO_isKept_isKept (s : SO) (v : (Nat → Int32)) : O_isKept (uO_isKept s v) = v := rfl
theorem xO_latest_isKept (s : SO) (v : (Nat → Int32)) : O_latest (uO_isKept s v) = O_latest s := rfl
theorem xO_text_isKept (s : SO) (v : (Nat → Int32)) : O_text (uO_isKept s v) = O_text s := rfl
theorem xO_typed_isKept (s : SO) (v : (Nat → Int32)) : O_typed (uO_isKept s v) = O_typed s := rfl
theorem xO_next_isKept (s : SO) (v : (Nat → Int32)) : O_next (uO_isKept s v) = O_next s := rfl
theorem xO_token_isKept (s : SO) (v : (Nat → Int32)) : O_token (uO_isKept s v) = O_token s := rfl
theorem xO_place_isKept (s : SO) (v : (Nat → Int32)) : O_place (uO_isKept s v) = O_place s := rfl
theorem xO_value_isKept (s : SO) (v : (Nat → Int32)) : O_value (uO_isKept s v) = O_value s := rfl
theorem xO_fault_isKept (s : SO) (v : (Nat → Int32)) : O_fault (uO_isKept s v) = O_fault s := rfl
theorem xO_luck_isKept (s : SO) (v : (Nat → Int32)) : O_luck (uO_isKept s v) = O_luck s := rfl
theorem xO_stall_isKept (s : SO) (v : (Nat → Int32)) : O_stall (uO_isKept s v) = O_stall s := rfl
theorem xO_way_isKept (s : SO) (v : (Nat → Int32)) : O_way (uO_isKept s v) = O_way s := rfl
theorem xO_stalls_isKept (s : SO) (v : (Nat → Int32)) : O_stalls (uO_isKept s v) = O_stalls s := rfl
theorem xO_ways_isKept (s : SO) (v : (Nat → Int32)) : O_ways (uO_isKept s v) = O_ways s := rfl
theorem xO_draftStalls_isKept (s : SO) (v : (Nat → Int32)) : O_draftStalls (uO_isKept s v) = O_draftStalls s := rfl
theorem xO_draftWays_isKept (s : SO) (v : (Nat → Int32)) : O_draftWays (uO_isKept s v) = O_draftWays s := rfl
theorem xO_beliefs_isKept (s : SO) (v : (Nat → Int32)) : O_beliefs (uO_isKept s v) = O_beliefs s := rfl
theorem xO_bars_isKept (s : SO) (v : (Nat → Int32)) : O_bars (uO_isKept s v) = O_bars s := rfl
theorem xO_triangle_isKept (s : SO) (v : (Nat → Int32)) : O_triangle (uO_isKept s v) = O_triangle s := rfl
theorem xO_costs_isKept (s : SO) (v : (Nat → Int32)) : O_costs (uO_isKept s v) = O_costs s := rfl
theorem xO_dones_isKept (s : SO) (v : (Nat → Int32)) : O_dones (uO_isKept s v) = O_dones s := rfl
theorem xO_row_isKept (s : SO) (v : (Nat → Int32)) : O_row (uO_isKept s v) = O_row s := rfl
theorem xO_up_isKept (s : SO) (v : (Nat → Int32)) : O_up (uO_isKept s v) = O_up s := rfl
theorem xO_down_isKept (s : SO) (v : (Nat → Int32)) : O_down (uO_isKept s v) = O_down s := rfl
theorem xO_soldSteps_isKept (s : SO) (v : (Nat → Int32)) : O_soldSteps (uO_isKept s v) = O_soldSteps s := rfl
theorem zO_isKept (s : SO) (v w : (Nat → Int32)) : uO_isKept (uO_isKept s v) w = uO_isKept s w := rfl
theorem xO_thrown_latest (s : SO) (v : (Nat → Int64)) : O_thrown (uO_latest s v) = O_thrown s := rfl
theorem xO_trace_latest (s : SO) (v : (Nat → Int64)) : O_trace (uO_latest s v) = O_trace s := rfl
theorem xO_s_latest (s : SO) (v : (Nat → Int64)) : O_s (uO_latest s v) = O_s s := rfl
theorem xO_kept_latest (s : SO) (v : (Nat → Int64)) : O_kept (uO_latest s v) = O_kept s := rfl
theorem xO_isKept_latest (s : SO) (v : (Nat → Int64)) : O_isKept (uO_latest s v) = O_isKept s := rfl
theorem xO_latest_latest (s : SO) (v : (Nat → Int64)) : O_latest (uO_latest s v) = v := rfl
theorem xO_text_latest (s : SO) (v : (Nat → Int64)) : O_text (uO_latest s v) = O_text s := rfl
theorem xO_typed_latest (s : SO) (v : (Nat → Int64)) : O_typed (uO_latest s v) = O_typed s := rfl
theorem xO_next_latest (s : SO) (v : (Nat → Int64)) : O_next (uO_latest s v) = O_next s := rfl
theorem xO_token_latest (s : SO) (v : (Nat → Int64)) : O_token (uO_latest s v) = O_token s := rfl
theorem xO_place_latest (s : SO) (v : (Nat → Int64)) : O_place (uO_latest s v) = O_place s := rfl
theorem xO_value_latest (s : SO) (v : (Nat → Int64)) : O_value (uO_latest s v) = O_value s := rfl
theorem xO_fault_latest (s : SO) (v : (Nat → Int64)) : O_fault (uO_latest s v) = O_fault s := rfl
theorem xO_luck_latest (s : SO) (v : (Nat → Int64)) : O_luck (uO_latest s v) = O_luck s := rfl
theorem xO_stall_latest (s : SO) (v : (Nat → Int64)) : O_stall (uO_latest s v) = O_stall s := rfl
theorem xO_way_latest (s : SO) (v : (Nat → Int64)) : O_way (uO_latest s v) = O_way s := rfl
theorem xO_stalls_latest (s : SO) (v : (Nat → Int64)) : O_stalls (uO_latest s v) = O_stalls s := rfl
theorem xO_ways_latest (s : SO) (v : (Nat → Int64)) : O_ways (uO_latest s v) = O_ways s := rfl
theorem xO_draftStalls_latest (s : SO) (v : (Nat → Int64)) : O_draftStalls (uO_latest s v) = O_draftStalls s := rfl
theorem xO_draftWays_latest (s : SO) (v : (Nat → Int64)) : O_draftWays (uO_latest s v) = O_draftWays s := rfl
theorem xO_beliefs_latest (s : SO) (v : (Nat → Int64)) : O_beliefs (uO_latest s v) = O_beliefs s := rfl
theorem xO_bars_latest (s : SO) (v : (Nat → Int64)) : O_bars (uO_latest s v) = O_bars s := rfl
theorem xO_triangle_latest (s : SO) (v : (Nat → Int64)) : O_triangle (uO_latest s v) = O_triangle s := rfl
theorem xO_costs_latest (s : SO) (v : (Nat → Int64)) : O_costs (uO_latest s v) = O_costs s := rfl
theorem xO_dones_latest (s : SO) (v : (Nat → Int64)) : O_dones (uO_latest s v) = O_dones s := rfl
theorem xO_row_latest (s : SO) (v : (Nat → Int64)) : O_row (uO_latest s v) = O_row s := rfl
theorem xO_up_latest (s : SO) (v : (Nat → Int64)) : O_up (uO_latest s v) = O_up s := rfl
theorem xO_down_latest (s : SO) (v : (Nat → Int64)) : O_down (uO_latest s v) = O_down s := rfl
theorem xO_soldSteps_latest (s : SO) (v : (Nat → Int64)) : O_soldSteps (uO_latest s v) = O_soldSteps s := rfl
theorem zO_latest (s : SO) (v w : (Nat → Int64)) : uO_latest (uO_latest s v) w = uO_latest s w := rfl
theorem xO_thrown_text (s : SO) (v : (Nat → Int32)) : O_thrown (uO_text s v) = O_thrown s := rfl
theorem xO_trace_text (s : SO) (v : (Nat → Int32)) : O_trace (uO_text s v) = O_trace s := rfl
theorem xO_s_text (s : SO) (v : (Nat → Int32)) : O_s (uO_text s v) = O_s s := rfl
theorem xO_kept_text (s : SO) (v : (Nat → Int32)) : O_kept (uO_text s v) = O_kept s := rfl
theorem xO_isKept_text (s : SO) (v : (Nat → Int32)) : O_isKept (uO_text s v) = O_isKept s := rfl
theorem xO_latest_text (s : SO) (v : (Nat → Int32)) : O_latest (uO_text s v) = O_latest s := rfl
theorem xO_text_text (s : SO) (v : (Nat → Int32)) : O_text (uO_text s v) = v := rfl
theorem xO_typed_text (s : SO) (v : (Nat → Int32)) : O_typed (uO_text s v) = O_typed s := rfl
theorem xO_next_text (s : SO) (v : (Nat → Int32)) : O_next (uO_text s v) = O_next s := rfl
theorem xO_token_text (s : SO) (v : (Nat → Int32)) : O_token (uO_text s v) = O_token s := rfl
theorem xO_place_text (s : SO) (v : (Nat → Int32)) : O_place (uO_text s v) = O_place s := rfl
theorem xO_value_text (s : SO) (v : (Nat → Int32)) : O_value (uO_text s v) = O_value s := rfl
theorem xO_fault_text (s : SO) (v : (Nat → Int32)) : O_fault (uO_text s v) = O_fault s := rfl
theorem xO_luck_text (s : SO) (v : (Nat → Int32)) : O_luck (uO_text s v) = O_luck s := rfl
theorem xO_stall_text (s : SO) (v : (Nat → Int32)) : O_stall (uO_text s v) = O_stall s := rfl
theorem xO_way_text (s : SO) (v : (Nat → Int32)) : O_way (uO_text s v) = O_way s := rfl
theorem xO_stalls_text (s : SO) (v : (Nat → Int32)) : O_stalls (uO_text s v) = O_stalls s := rfl
theorem xO_ways_text (s : SO) (v : (Nat → Int32)) : O_ways (uO_text s v) = O_ways s := rfl
theorem xO_draftStalls_text (s : SO) (v : (Nat → Int32)) : O_draftStalls (uO_text s v) = O_draftStalls s := rfl
theorem xO_draftWays_text (s : SO) (v : (Nat → Int32)) : O_draftWays (uO_text s v) = O_draftWays s := rfl
theorem xO_beliefs_text (s : SO) (v : (Nat → Int32)) : O_beliefs (uO_text s v) = O_beliefs s := rfl
theorem xO_bars_text (s : SO) (v : (Nat → Int32)) : O_bars (uO_text s v) = O_bars s := rfl
theorem xO_triangle_text (s : SO) (v : (Nat → Int32)) : O_triangle (uO_text s v) = O_triangle s := rfl
theorem xO_costs_text (s : SO) (v : (Nat → Int32)) : O_costs (uO_text s v) = O_costs s := rfl
theorem xO_dones_text (s : SO) (v : (Nat → Int32)) : O_dones (uO_text s v) = O_dones s := rfl
theorem xO_row_text (s : SO) (v : (Nat → Int32)) : O_row (uO_text s v) = O_row s := rfl
theorem xO_up_text (s : SO) (v : (Nat → Int32)) : O_up (uO_text s v) = O_up s := rfl
theorem xO_down_text (s : SO) (v : (Nat → Int32)) : O_down (uO_text s v) = O_down s := rfl
theorem xO_soldSteps_text (s : SO) (v : (Nat → Int32)) : O_soldSteps (uO_text s v) = O_soldSteps s := rfl
theorem zO_text (s : SO) (v w : (Nat → Int32)) : uO_text (uO_text s v) w = uO_text s w := rfl
theorem xO_thrown_typed (s : SO) (v : Int32) : O_thrown (uO_typed s v) = O_thrown s := rfl
theorem xO_trace_typed (s : SO) (v : Int32) : O_trace (uO_typed s v) = O_trace s := rfl
theorem xO_s_typed (s : SO) (v : Int32) : O_s (uO_typed s v) = O_s s := rfl
theorem xO_kept_typed (s : SO) (v : Int32) : O_kept (uO_typed s v) = O_kept s := rfl
theorem xO_isKept_typed (s : SO) (v : Int32) : O_isKept (uO_typed s v) = O_isKept s := rfl
theorem xO_latest_typed (s : SO) (v : Int32) : O_latest (uO_typed s v) = O_latest s := rfl
theorem xO_text_typed (s : SO) (v : Int32) : O_text (uO_typed s v) = O_text s := rfl
theorem xO_typed_typed (s : SO) (v : Int32) : O_typed (uO_typed s v) = v := rfl
theorem xO_next_typed (s : SO) (v : Int32) : O_next (uO_typed s v) = O_next s := rfl
theorem xO_token_typed (s : SO) (v : Int32) : O_token (uO_typed s v) = O_token s := rfl
theorem xO_place_typed (s : SO) (v : Int32) : O_place (uO_typed s v) = O_place s := rfl
theorem xO_value_typed (s : SO) (v : Int32) : O_value (uO_typed s v) = O_value s := rfl
theorem xO_fault_typed (s : SO) (v : Int32) : O_fault (uO_typed s v) = O_fault s := rfl
theorem xO_luck_typed (s : SO) (v : Int32) : O_luck (uO_typed s v) = O_luck s := rfl
theorem xO_stall_typed (s : SO) (v : Int32) : O_stall (uO_typed s v) = O_stall s := rfl
theorem xO_way_typed (s : SO) (v : Int32) : O_way (uO_typed s v) = O_way s := rfl
theorem xO_stalls_typed (s : SO) (v : Int32) : O_stalls (uO_typed s v) = O_stalls s := rfl
theorem xO_ways_typed (s : SO) (v : Int32) : O_ways (uO_typed s v) = O_ways s := rfl
theorem xO_draftStalls_typed (s : SO) (v : Int32) : O_draftStalls (uO_typed s v) = O_draftStalls s := rfl
theorem xO_draftWays_typed (s : SO) (v : Int32) : O_draftWays (uO_typed s v) = O_draftWays s := rfl
theorem xO_beliefs_typed (s : SO) (v : Int32) : O_beliefs (uO_typed s v) = O_beliefs s := rfl
theorem xO_bars_typed (s : SO) (v : Int32) : O_bars (uO_typed s v) = O_bars s := rfl
theorem xO_triangle_typed (s : SO) (v : Int32) : O_triangle (uO_typed s v) = O_triangle s := rfl
theorem xO_costs_typed (s : SO) (v : Int32) : O_costs (uO_typed s v) = O_costs s := rfl
theorem xO_dones_typed (s : SO) (v : Int32) : O_dones (uO_typed s v) = O_dones s := rfl
theorem xO_row_typed (s : SO) (v : Int32) : O_row (uO_typed s v) = O_row s := rfl
theorem xO_up_typed (s : SO) (v : Int32) : O_up (uO_typed s v) = O_up s := rfl
theorem xO_down_typed (s : SO) (v : Int32) : O_down (uO_typed s v) = O_down s := rfl
theorem xO_soldSteps_typed (s : SO) (v : Int32) : O_soldSteps (uO_typed s v) = O_soldSteps s := rfl
theorem zO_typed (s : SO) (v w : Int32) : uO_typed (uO_typed s v) w = uO_typed s w := rfl
theorem xO_thrown_next (s : SO) (v : Int32) : O_thrown (uO_next s v) = O_thrown s := rfl
theorem xO_trace_next (s : SO) (v : Int32) : O_trace (uO_next s v) = O_trace s := rfl
theorem xO_s_next (s : SO) (v : Int32) : O_s (uO_next s v) = O_s s := rfl
theorem xO_kept_next (s : SO) (v : Int32) : O_kept (uO_next s v) = O_kept s := rfl
theorem xO_isKept_next (s : SO) (v : Int32) : O_isKept (uO_next s v) = O_isKept s := rfl
theorem xO_latest_next (s : SO) (v : Int32) : O_latest (uO_next s v) = O_latest s := rfl
theorem xO_text_next (s : SO) (v : Int32) : O_text (uO_next s v) = O_text s := rfl
theorem xO_typed_next (s : SO) (v : Int32) : O_typed (uO_next s v) = O_typed s := rfl
theorem xO_next_next (s : SO) (v : Int32) : O_next (uO_next s v) = v := rfl
theorem xO_token_next (s : SO) (v : Int32) : O_token (uO_next s v) = O_token s := rfl
theorem xO_place_next (s : SO) (v : Int32) : O_place (uO_next s v) = O_place s := rfl
theorem xO_value_next (s : SO) (v : Int32) : O_value (uO_next s v) = O_value s := rfl
theorem xO_fault_next (s : SO) (v : Int32) : O_fault (uO_next s v) = O_fault s := rfl
theorem xO_luck_next (s : SO) (v : Int32) : O_luck (uO_next s v) = O_luck s := rfl
theorem xO_stall_next (s : SO) (v : Int32) : O_stall (uO_next s v) = O_stall s := rfl
theorem xO_way_next (s : SO) (v : Int32) : O_way (uO_next s v) = O_way s := rfl
theorem xO_stalls_next (s : SO) (v : Int32) : O_stalls (uO_next s v) = O_stalls s := rfl
theorem xO_ways_next (s : SO) (v : Int32) : O_ways (uO_next s v) = O_ways s := rfl
theorem xO_draftStalls_next (s : SO) (v : Int32) : O_draftStalls (uO_next s v) = O_draftStalls s := rfl
theorem xO_draftWays_next (s : SO) (v : Int32) : O_draftWays (uO_next s v) = O_draftWays s := rfl
theorem xO_beliefs_next (s : SO) (v : Int32) : O_beliefs (uO_next s v) = O_beliefs s := rfl
theorem xO_bars_next (s : SO) (v : Int32) : O_bars (uO_next s v) = O_bars s := rfl
theorem xO_triangle_next (s : SO) (v : Int32) : O_triangle (uO_next s v) = O_triangle s := rfl
theorem xO_costs_next (s : SO) (v : Int32) : O_costs (uO_next s v) = O_costs s := rfl
theorem xO_dones_next (s : SO) (v : Int32) : O_dones (uO_next s v) = O_dones s := rfl
theorem xO_row_next (s : SO) (v : Int32) : O_row (uO_next s v) = O_row s := rfl
theorem xO_up_next (s : SO) (v : Int32) : O_up (uO_next s v) = O_up s := rfl
theorem xO_down_next (s : SO) (v : Int32) : O_down (uO_next s v) = O_down s := rfl
theorem xO_soldSteps_next (s : SO) (v : Int32) : O_soldSteps (uO_next s v) = O_soldSteps s := rfl
theorem zO_next (s : SO) (v w : Int32) : uO_next (uO_next s v) w = uO_next s w := rfl
theorem xO_thrown_token (s : SO) (v : Int32) : O_thrown (uO_token s v) = O_thrown s := rfl
theorem xO_trace_token (s : SO) (v : Int32) : O_trace (uO_token s v) = O_trace s := rfl
theorem xO_s_token (s : SO) (v : Int32) : O_s (uO_token s v) = O_s s := rfl
theorem xO_kept_token (s : SO) (v : Int32) : O_kept (uO_token s v) = O_kept s := rfl
theorem xO_isKept_token (s : SO) (v : Int32) : O_isKept (uO_token s v) = O_isKept s := rfl
theorem xO_latest_token (s : SO) (v : Int32) : O_latest (uO_token s v) = O_latest s := rfl
theorem xO_text_token (s : SO) (v : Int32) : O_text (uO_token s v) = O_text s := rfl
theorem xO_typed_token (s : SO) (v : Int32) : O_typed (uO_token s v) = O_typed s := rfl
theorem xO_next_token (s : SO) (v : Int32) : O_next (uO_token s v) = O_next s := rfl
theorem xO_token_token (s : SO) (v : Int32) : O_token (uO_token s v) = v := rfl
theorem xO_place_token (s : SO) (v : Int32) : O_place (uO_token s v) = O_place s := rfl
theorem xO_value_token (s : SO) (v : Int32) : O_value (uO_token s v) = O_value s := rfl
theorem xO_fault_token (s : SO) (v : Int32) : O_fault (uO_token s v) = O_fault s := rfl
theorem xO_luck_token (s : SO) (v : Int32) : O_luck (uO_token s v) = O_luck s := rfl
theorem xO_stall_token (s : SO) (v : Int32) : O_stall (uO_token s v) = O_stall s := rfl
theorem xO_way_token (s : SO) (v : Int32) : O_way (uO_token s v) = O_way s := rfl
theorem xO_stalls_token (s : SO) (v : Int32) : O_stalls (uO_token s v) = O_stalls s := rfl
theorem xO_ways_token (s : SO) (v : Int32) : O_ways (uO_token s v) = O_ways s := rfl
theorem xO_draftStalls_token (s : SO) (v : Int32) : O_draftStalls (uO_token s v) = O_draftStalls s := rfl
theorem xO_draftWays_token (s : SO) (v : Int32) : O_draftWays (uO_token s v) = O_draftWays s := rfl
theorem xO_beliefs_token (s : SO) (v : Int32) : O_beliefs (uO_token s v) = O_beliefs s := rfl
theorem xO_bars_token (s : SO) (v : Int32) : O_bars (uO_token s v) = O_bars s := rfl
theorem xO_triangle_token (s : SO) (v : Int32) : O_triangle (uO_token s v) = O_triangle s := rfl
theorem xO_costs_token (s : SO) (v : Int32) : O_costs (uO_token s v) = O_costs s := rfl
theorem xO_dones_token (s : SO) (v : Int32) : O_dones (uO_token s v) = O_dones s := rfl
theorem xO_row_token (s : SO) (v : Int32) : O_row (uO_token s v) = O_row s := rfl
theorem xO_up_token (s : SO) (v : Int32) : O_up (uO_token s v) = O_up s := rfl
theorem xO_down_token (s : SO) (v : Int32) : O_down (uO_token s v) = O_down s := rfl
theorem xO_soldSteps_token (s : SO) (v : Int32) : O_soldSteps (uO_token s v) = O_soldSteps s := rfl
theorem zO_token (s : SO) (v w : Int32) : uO_token (uO_token s v) w = uO_token s w := rfl
theorem xO_thrown_place (s : SO) (v : Int32) : O_thrown (uO_place s v) = O_thrown s := rfl
theorem xO_trace_place (s : SO) (v : Int32) : O_trace (uO_place s v) = O_trace s := rfl
theorem xO_s_place (s : SO) (v : Int32) : O_s (uO_place s v) = O_s s := rfl
theorem xO_kept_place (s : SO) (v : Int32) : O_kept (uO_place s v) = O_kept s := rfl
theorem xO_isKept_place (s : SO) (v : Int32) : O_isKept (uO_place s v) = O_isKept s := rfl
theorem xO_latest_place (s : SO) (v : Int32) : O_latest (uO_place s v) = O_latest s := rfl
theorem xO_text_place (s : SO) (v : Int32) : O_text (uO_place s v) = O_text s := rfl
theorem xO_typed_place (s : SO) (v : Int32) : O_typed (uO_place s v) = O_typed s := rfl
theorem xO_next_place (s : SO) (v : Int32) : O_next (uO_place s v) = O_next s := rfl
theorem xO_token_place (s : SO) (v : Int32) : O_token (uO_place s v) = O_token s := rfl
theorem xO_place_place (s : SO) (v : Int32) : O_place (uO_place s v) = v := rfl
theorem xO_value_place (s : SO) (v : Int32) : O_value (uO_place s v) = O_value s := rfl
theorem xO_fault_place (s : SO) (v : Int32) : O_fault (uO_place s v) = O_fault s := rfl
theorem xO_luck_place (s : SO) (v : Int32) : O_luck (uO_place s v) = O_luck s := rfl
theorem xO_stall_place (s : SO) (v : Int32) : O_stall (uO_place s v) = O_stall s := rfl
theorem xO_way_place (s : SO) (v : Int32) : O_way (uO_place s v) = O_way s := rfl
theorem xO_stalls_place (s : SO) (v : Int32) : O_stalls (uO_place s v) = O_stalls s := rfl
theorem xO_ways_place (s : SO) (v : Int32) : O_ways (uO_place s v) = O_ways s := rfl
theorem xO_draftStalls_place (s : SO) (v : Int32) : O_draftStalls (uO_place s v) = O_draftStalls s := rfl
theorem xO_draftWays_place (s : SO) (v : Int32) : O_draftWays (uO_place s v) = O_draftWays s := rfl
theorem xO_beliefs_place (s : SO) (v : Int32) : O_beliefs (uO_place s v) = O_beliefs s := rfl
theorem xO_bars_place (s : SO) (v : Int32) : O_bars (uO_place s v) = O_bars s := rfl
theorem xO_triangle_place (s : SO) (v : Int32) : O_triangle (uO_place s v) = O_triangle s := rfl
theorem xO_costs_place (s : SO) (v : Int32) : O_costs (uO_place s v) = O_costs s := rfl
theorem xO_dones_place (s : SO) (v : Int32) : O_dones (uO_place s v) = O_dones s := rfl
theorem xO_row_place (s : SO) (v : Int32) : O_row (uO_place s v) = O_row s := rfl
theorem xO_up_place (s : SO) (v : Int32) : O_up (uO_place s v) = O_up s := rfl
theorem xO_down_place (s : SO) (v : Int32) : O_down (uO_place s v) = O_down s := rfl
theorem xO_soldSteps_place (s : SO) (v : Int32) : O_soldSteps (uO_place s v) = O_soldSteps s := rfl
theorem zO_place (s : SO) (v w : Int32) : uO_place (uO_place s v) w = uO_place s w := rfl
theorem xO_thrown_value (s : SO) (v : Int32) : O_thrown (uO_value s v) = O_thrown s := rfl
theorem xO_trace_value (s : SO) (v : Int32) : O_trace (uO_value s v) = O_trace s := rfl
theorem xO_s_value (s : SO) (v : Int32) : O_s (uO_value s v) = O_s s := rfl
theorem xO_kept_value (s : SO) (v : Int32) : O_kept (uO_value s v) = O_kept s := rfl
theorem xO_isKept_value (s : SO) (v : Int32) : O_isKept (uO_value s v) = O_isKept s := rfl
theorem xO_latest_value (s : SO) (v : Int32) : O_latest (uO_value s v) = O_latest s := rfl
theorem xO_text_value (s : SO) (v : Int32) : O_text (uO_value s v) = O_text s := rfl
theorem xO_typed_value (s : SO) (v : Int32) : O_typed (uO_value s v) = O_typed s := rfl
theorem xO_next_value (s : SO) (v : Int32) : O_next (uO_value s v) = O_next s := rfl
theorem xO_token_value (s : SO) (v : Int32) : O_token (uO_value s v) = O_token s := rfl
theorem xO_place_value (s : SO) (v : Int32) : O_place (uO_value s v) = O_place s := rfl
theorem xO_value_value (s : SO) (v : Int32) : O_value (uO_value s v) = v := rfl
theorem xO_fault_value (s : SO) (v : Int32) : O_fault (uO_value s v) = O_fault s := rfl
theorem xO_luck_value (s : SO) (v : Int32) : O_luck (uO_value s v) = O_luck s := rfl
theorem xO_stall_value (s : SO) (v : Int32) : O_stall (uO_value s v) = O_stall s := rfl
theorem xO_way_value (s : SO) (v : Int32) : O_way (uO_value s v) = O_way s := rfl
theorem xO_stalls_value (s : SO) (v : Int32) : O_stalls (uO_value s v) = O_stalls s := rfl
theorem xO_ways_value (s : SO) (v : Int32) : O_ways (uO_value s v) = O_ways s := rfl
theorem xO_draftStalls_value (s : SO) (v : Int32) : O_draftStalls (uO_value s v) = O_draftStalls s := rfl
theorem xO_draftWays_value (s : SO) (v : Int32) : O_draftWays (uO_value s v) = O_draftWays s := rfl
theorem xO_beliefs_value (s : SO) (v : Int32) : O_beliefs (uO_value s v) = O_beliefs s := rfl
theorem xO_bars_value (s : SO) (v : Int32) : O_bars (uO_value s v) = O_bars s := rfl
theorem xO_triangle_value (s : SO) (v : Int32) : O_triangle (uO_value s v) = O_triangle s := rfl
theorem xO_costs_value (s : SO) (v : Int32) : O_costs (uO_value s v) = O_costs s := rfl
theorem xO_dones_value (s : SO) (v : Int32) : O_dones (uO_value s v) = O_dones s := rfl
theorem xO_row_value (s : SO) (v : Int32) : O_row (uO_value s v) = O_row s := rfl
theorem xO_up_value (s : SO) (v : Int32) : O_up (uO_value s v) = O_up s := rfl
theorem xO_down_value (s : SO) (v : Int32) : O_down (uO_value s v) = O_down s := rfl
theorem xO_soldSteps_value (s : SO) (v : Int32) : O_soldSteps (uO_value s v) = O_soldSteps s := rfl
theorem zO_value (s : SO) (v w : Int32) : uO_value (uO_value s v) w = uO_value s w := rfl
theorem xO_thrown_fault (s : SO) (v : Int32) : O_thrown (uO_fault s v) = O_thrown s := rfl
theorem xO_trace_fault (s : SO) (v : Int32) : O_trace (uO_fault s v) = O_trace s := rfl
theorem xO_s_fault (s : SO) (v : Int32) : O_s (uO_fault s v) = O_s s := rfl
theorem xO_kept_fault (s : SO) (v : Int32) : O_kept (uO_fault s v) = O_kept s := rfl
theorem xO_isKept_fault (s : SO) (v : Int32) : O_isKept (uO_fault s v) = O_isKept s := rfl
theorem xO_latest_fault (s : SO) (v : Int32) : O_latest (uO_fault s v) = O_latest s := rfl
theorem xO_text_fault (s : SO) (v : Int32) : O_text (uO_fault s v) = O_text s := rfl
theorem xO_typed_fault (s : SO) (v : Int32) : O_typed (uO_fault s v) = O_typed s := rfl
theorem xO_next_fault (s : SO) (v : Int32) : O_next (uO_fault s v) = O_next s := rfl
theorem xO_token_fault (s : SO) (v : Int32) : O_token (uO_fault s v) = O_token s := rfl
theorem xO_place_fault (s : SO) (v : Int32) : O_place (uO_fault s v) = O_place s := rfl
theorem xO_value_fault (s : SO) (v : Int32) : O_value (uO_fault s v) = O_value s := rfl
theorem xO_fault_fault (s : SO) (v : Int32) : O_fault (uO_fault s v) = v := rfl
theorem xO_luck_fault (s : SO) (v : Int32) : O_luck (uO_fault s v) = O_luck s := rfl
theorem xO_stall_fault (s : SO) (v : Int32) : O_stall (uO_fault s v) = O_stall s := rfl
theorem xO_way_fault (s : SO) (v : Int32) : O_way (uO_fault s v) = O_way s := rfl
theorem xO_stalls_fault (s : SO) (v : Int32) : O_stalls (uO_fault s v) = O_stalls s := rfl
theorem xO_ways_fault (s : SO) (v : Int32) : O_ways (uO_fault s v) = O_ways s := rfl
theorem xO_draftStalls_fault (s : SO) (v : Int32) : O_draftStalls (uO_fault s v) = O_draftStalls s := rfl
theorem xO_draftWays_fault (s : SO) (v : Int32) : O_draftWays (uO_fault s v) = O_draftWays s := rfl
theorem xO_beliefs_fault (s : SO) (v : Int32) : O_beliefs (uO_fault s v) = O_beliefs s := rfl
theorem xO_bars_fault (s : SO) (v : Int32) : O_bars (uO_fault s v) = O_bars s := rfl
theorem xO_triangle_fault (s : SO) (v : Int32) : O_triangle (uO_fault s v) = O_triangle s := rfl
theorem xO_costs_fault (s : SO) (v : Int32) : O_costs (uO_fault s v) = O_costs s := rfl
theorem xO_dones_fault (s : SO) (v : Int32) : O_dones (uO_fault s v) = O_dones s := rfl
theorem xO_row_fault (s : SO) (v : Int32) : O_row (uO_fault s v) = O_row s := rfl
theorem xO_up_fault (s : SO) (v : Int32) : O_up (uO_fault s v) = O_up s := rfl
theorem xO_down_fault (s : SO) (v : Int32) : O_down (uO_fault s v) = O_down s := rfl
theorem xO_soldSteps_fault (s : SO) (v : Int32) : O_soldSteps (uO_fault s v) = O_soldSteps s := rfl
theorem zO_fault (s : SO) (v w : Int32) : uO_fault (uO_fault s v) w = uO_fault s w := rfl
theorem xO_thrown_luck (s : SO) (v : (Nat → Int32)) : O_thrown (uO_luck s v) = O_thrown s := rfl
theorem xO_trace_luck (s : SO) (v : (Nat → Int32)) : O_trace (uO_luck s v) = O_trace s := rfl
theorem xO_s_luck (s : SO) (v : (Nat → Int32)) : O_s (uO_luck s v) = O_s s := rfl
theorem xO_kept_luck (s : SO) (v : (Nat → Int32)) : O_kept (uO_luck s v) = O_kept s := rfl
theorem xO_isKept_luck (s : SO) (v : (Nat → Int32)) : O_isKept (uO_luck s v) = O_isKept s := rfl
theorem xO_latest_luck (s : SO) (v : (Nat → Int32)) : O_latest (uO_luck s v) = O_latest s := rfl
theorem xO_text_luck (s : SO) (v : (Nat → Int32)) : O_text (uO_luck s v) = O_text s := rfl
theorem xO_typed_luck (s : SO) (v : (Nat → Int32)) : O_typed (uO_luck s v) = O_typed s := rfl
theorem xO_next_luck (s : SO) (v : (Nat → Int32)) : O_next (uO_luck s v) = O_next s := rfl
theorem xO_token_luck (s : SO) (v : (Nat → Int32)) : O_token (uO_luck s v) = O_token s := rfl
theorem xO_place_luck (s : SO) (v : (Nat → Int32)) : O_place (uO_luck s v) = O_place s := rfl
theorem xO_value_luck (s : SO) (v : (Nat → Int32)) : O_value (uO_luck s v) = O_value s := rfl
theorem xO_fault_luck (s : SO) (v : (Nat → Int32)) : O_fault (uO_luck s v) = O_fault s := rfl
theorem xO_luck_luck (s : SO) (v : (Nat → Int32)) : O_luck (uO_luck s v) = v := rfl
theorem xO_stall_luck (s : SO) (v : (Nat → Int32)) : O_stall (uO_luck s v) = O_stall s := rfl
theorem xO_way_luck (s : SO) (v : (Nat → Int32)) : O_way (uO_luck s v) = O_way s := rfl
theorem xO_stalls_luck (s : SO) (v : (Nat → Int32)) : O_stalls (uO_luck s v) = O_stalls s := rfl
theorem xO_ways_luck (s : SO) (v : (Nat → Int32)) : O_ways (uO_luck s v) = O_ways s := rfl
theorem xO_draftStalls_luck (s : SO) (v : (Nat → Int32)) : O_draftStalls (uO_luck s v) = O_draftStalls s := rfl
theorem xO_draftWays_luck (s : SO) (v : (Nat → Int32)) : O_draftWays (uO_luck s v) = O_draftWays s := rfl
theorem xO_beliefs_luck (s : SO) (v : (Nat → Int32)) : O_beliefs (uO_luck s v) = O_beliefs s := rfl
theorem xO_bars_luck (s : SO) (v : (Nat → Int32)) : O_bars (uO_luck s v) = O_bars s := rfl
theorem xO_triangle_luck (s : SO) (v : (Nat → Int32)) : O_triangle (uO_luck s v) = O_triangle s := rfl
theorem xO_costs_luck (s : SO) (v : (Nat → Int32)) : O_costs (uO_luck s v) = O_costs s := rfl
theorem xO_dones_luck (s : SO) (v : (Nat → Int32)) : O_dones (uO_luck s v) = O_dones s := rfl
theorem xO_row_luck (s : SO) (v : (Nat → Int32)) : O_row (uO_luck s v) = O_row s := rfl
theorem xO_up_luck (s : SO) (v : (Nat → Int32)) : O_up (uO_luck s v) = O_up s := rfl
theorem xO_down_luck (s : SO) (v : (Nat → Int32)) : O_down (uO_luck s v) = O_down s := rfl
theorem xO_soldSteps_luck (s : SO) (v : (Nat → Int32)) : O_soldSteps (uO_luck s v) = O_soldSteps s := rfl
theorem zO_luck (s : SO) (v w : (Nat → Int32)) : uO_luck (uO_luck s v) w = uO_luck s w := rfl
theorem xO_thrown_stall (s : SO) (v : (Nat → Int32)) : O_thrown (uO_stall s v) = O_thrown s := rfl
theorem xO_trace_stall (s : SO) (v : (Nat → Int32)) : O_trace (uO_stall s v) = O_trace s := rfl
theorem xO_s_stall (s : SO) (v : (Nat → Int32)) : O_s (uO_stall s v) = O_s s := rfl
theorem xO_kept_stall (s : SO) (v : (Nat → Int32)) : O_kept (uO_stall s v) = O_kept s := rfl
theorem xO_isKept_stall (s : SO) (v : (Nat → Int32)) : O_isKept (uO_stall s v) = O_isKept s := rfl
theorem xO_latest_stall (s : SO) (v : (Nat → Int32)) : O_latest (uO_stall s v) = O_latest s := rfl
theorem xO_text_stall (s : SO) (v : (Nat → Int32)) : O_text (uO_stall s v) = O_text s := rfl
theorem xO_typed_stall (s : SO) (v : (Nat → Int32)) : O_typed (uO_stall s v) = O_typed s := rfl
theorem xO_next_stall (s : SO) (v : (Nat → Int32)) : O_next (uO_stall s v) = O_next s := rfl
theorem xO_token_stall (s : SO) (v : (Nat → Int32)) : O_token (uO_stall s v) = O_token s := rfl
theorem xO_place_stall (s : SO) (v : (Nat → Int32)) : O_place (uO_stall s v) = O_place s := rfl
theorem xO_value_stall (s : SO) (v : (Nat → Int32)) : O_value (uO_stall s v) = O_value s := rfl
theorem xO_fault_stall (s : SO) (v : (Nat → Int32)) : O_fault (uO_stall s v) = O_fault s := rfl
theorem xO_luck_stall (s : SO) (v : (Nat → Int32)) : O_luck (uO_stall s v) = O_luck s := rfl
theorem xO_stall_stall (s : SO) (v : (Nat → Int32)) : O_stall (uO_stall s v) = v := rfl
theorem xO_way_stall (s : SO) (v : (Nat → Int32)) : O_way (uO_stall s v) = O_way s := rfl
theorem xO_stalls_stall (s : SO) (v : (Nat → Int32)) : O_stalls (uO_stall s v) = O_stalls s := rfl
theorem xO_ways_stall (s : SO) (v : (Nat → Int32)) : O_ways (uO_stall s v) = O_ways s := rfl
theorem xO_draftStalls_stall (s : SO) (v : (Nat → Int32)) : O_draftStalls (uO_stall s v) = O_draftStalls s := rfl
theorem xO_draftWays_stall (s : SO) (v : (Nat → Int32)) : O_draftWays (uO_stall s v) = O_draftWays s := rfl
theorem xO_beliefs_stall (s : SO) (v : (Nat → Int32)) : O_beliefs (uO_stall s v) = O_beliefs s := rfl
theorem xO_bars_stall (s : SO) (v : (Nat → Int32)) : O_bars (uO_stall s v) = O_bars s := rfl
theorem xO_triangle_stall (s : SO) (v : (Nat → Int32)) : O_triangle (uO_stall s v) = O_triangle s := rfl
theorem xO_costs_stall (s : SO) (v : (Nat → Int32)) : O_costs (uO_stall s v) = O_costs s := rfl
theorem xO_dones_stall (s : SO) (v : (Nat → Int32)) : O_dones (uO_stall s v) = O_dones s := rfl
theorem xO_row_stall (s : SO) (v : (Nat → Int32)) : O_row (uO_stall s v) = O_row s := rfl
theorem xO_up_stall (s : SO) (v : (Nat → Int32)) : O_up (uO_stall s v) = O_up s := rfl
theorem xO_down_stall (s : SO) (v : (Nat → Int32)) : O_down (uO_stall s v) = O_down s := rfl
theorem xO_soldSteps_stall (s : SO) (v : (Nat → Int32)) : O_soldSteps (uO_stall s v) = O_soldSteps s := rfl
theorem zO_stall (s : SO) (v w : (Nat → Int32)) : uO_stall (uO_stall s v) w = uO_stall s w := rfl
theorem xO_thrown_way (s : SO) (v : (Nat → Int32)) : O_thrown (uO_way s v) = O_thrown s := rfl
theorem xO_trace_way (s : SO) (v : (Nat → Int32)) : O_trace (uO_way s v) = O_trace s := rfl
theorem xO_s_way (s : SO) (v : (Nat → Int32)) : O_s (uO_way s v) = O_s s := rfl
theorem xO_kept_way (s : SO) (v : (Nat → Int32)) : O_kept (uO_way s v) = O_kept s := rfl
theorem xO_isKept_way (s : SO) (v : (Nat → Int32)) : O_isKept (uO_way s v) = O_isKept s := rfl
theorem xO_latest_way (s : SO) (v : (Nat → Int32)) : O_latest (uO_way s v) = O_latest s := rfl
theorem xO_text_way (s : SO) (v : (Nat → Int32)) : O_text (uO_way s v) = O_text s := rfl
theorem xO_typed_way (s : SO) (v : (Nat → Int32)) : O_typed (uO_way s v) = O_typed s := rfl
theorem xO_next_way (s : SO) (v : (Nat → Int32)) : O_next (uO_way s v) = O_next s := rfl
theorem xO_token_way (s : SO) (v : (Nat → Int32)) : O_token (uO_way s v) = O_token s := rfl
theorem xO_place_way (s : SO) (v : (Nat → Int32)) : O_place (uO_way s v) = O_place s := rfl
theorem xO_value_way (s : SO) (v : (Nat → Int32)) : O_value (uO_way s v) = O_value s := rfl
theorem xO_fault_way (s : SO) (v : (Nat → Int32)) : O_fault (uO_way s v) = O_fault s := rfl
theorem xO_luck_way (s : SO) (v : (Nat → Int32)) : O_luck (uO_way s v) = O_luck s := rfl
theorem xO_stall_way (s : SO) (v : (Nat → Int32)) : O_stall (uO_way s v) = O_stall s := rfl
theorem xO_way_way (s : SO) (v : (Nat → Int32)) : O_way (uO_way s v) = v := rfl
theorem xO_stalls_way (s : SO) (v : (Nat → Int32)) : O_stalls (uO_way s v) = O_stalls s := rfl
theorem xO_ways_way (s : SO) (v : (Nat → Int32)) : O_ways (uO_way s v) = O_ways s := rfl
theorem xO_draftStalls_way (s : SO) (v : (Nat → Int32)) : O_draftStalls (uO_way s v) = O_draftStalls s := rfl
theorem xO_draftWays_way (s : SO) (v : (Nat → Int32)) : O_draftWays (uO_way s v) = O_draftWays s := rfl
theorem xO_beliefs_way (s : SO) (v : (Nat → Int32)) : O_beliefs (uO_way s v) = O_beliefs s := rfl
theorem xO_bars_way (s : SO) (v : (Nat → Int32)) : O_bars (uO_way s v) = O_bars s := rfl
theorem xO_triangle_way (s : SO) (v : (Nat → Int32)) : O_triangle (uO_way s v) = O_triangle s := rfl
theorem xO_costs_way (s : SO) (v : (Nat → Int32)) : O_costs (uO_way s v) = O_costs s := rfl
theorem xO_dones_way (s : SO) (v : (Nat → Int32)) : O_dones (uO_way s v) = O_dones s := rfl
theorem xO_row_way (s : SO) (v : (Nat → Int32)) : O_row (uO_way s v) = O_row s := rfl
theorem xO_up_way (s : SO) (v : (Nat → Int32)) : O_up (uO_way s v) = O_up s := rfl
theorem xO_down_way (s : SO) (v : (Nat → Int32)) : O_down (uO_way s v) = O_down s := rfl
theorem xO_soldSteps_way (s : SO) (v : (Nat → Int32)) : O_soldSteps (uO_way s v) = O_soldSteps s := rfl
theorem zO_way (s : SO) (v w : (Nat → Int32)) : uO_way (uO_way s v) w = uO_way s w := rfl
theorem xO_thrown_stalls (s : SO) (v : Int32) : O_thrown (uO_stalls s v) = O_thrown s := rfl
theorem xO_trace_stalls (s : SO) (v : Int32) : O_trace (uO_stalls s v) = O_trace s := rfl
theorem xO_s_stalls (s : SO) (v : Int32) : O_s (uO_stalls s v) = O_s s := rfl
theorem xO_kept_stalls (s : SO) (v : Int32) : O_kept (uO_stalls s v) = O_kept s := rfl
theorem xO_isKept_stalls (s : SO) (v : Int32) : O_isKept (uO_stalls s v) = O_isKept s := rfl
theorem xO_latest_stalls (s : SO) (v : Int32) : O_latest (uO_stalls s v) = O_latest s := rfl
theorem xO_text_stalls (s : SO) (v : Int32) : O_text (uO_stalls s v) = O_text s := rfl
theorem xO_typed_stalls (s : SO) (v : Int32) : O_typed (uO_stalls s v) = O_typed s := rfl
theorem xO_next_stalls (s : SO) (v : Int32) : O_next (uO_stalls s v) = O_next s := rfl
theorem xO_token_stalls (s : SO) (v : Int32) : O_token (uO_stalls s v) = O_token s := rfl
theorem xO_place_stalls (s : SO) (v : Int32) : O_place (uO_stalls s v) = O_place s := rfl
theorem xO_value_stalls (s : SO) (v : Int32) : O_value (uO_stalls s v) = O_value s := rfl
theorem xO_fault_stalls (s : SO) (v : Int32) : O_fault (uO_stalls s v) = O_fault s := rfl
theorem xO_luck_stalls (s : SO) (v : Int32) : O_luck (uO_stalls s v) = O_luck s := rfl
theorem xO_stall_stalls (s : SO) (v : Int32) : O_stall (uO_stalls s v) = O_stall s := rfl
theorem xO_way_stalls (s : SO) (v : Int32) : O_way (uO_stalls s v) = O_way s := rfl
theorem xO_stalls_stalls (s : SO) (v : Int32) : O_stalls (uO_stalls s v) = v := rfl
theorem xO_ways_stalls (s : SO) (v : Int32) : O_ways (uO_stalls s v) = O_ways s := rfl
theorem xO_draftStalls_stalls (s : SO) (v : Int32) : O_draftStalls (uO_stalls s v) = O_draftStalls s := rfl
theorem xO_draftWays_stalls (s : SO) (v : Int32) : O_draftWays (uO_stalls s v) = O_draftWays s := rfl
theorem xO_beliefs_stalls (s : SO) (v : Int32) : O_beliefs (uO_stalls s v) = O_beliefs s := rfl
theorem xO_bars_stalls (s : SO) (v : Int32) : O_bars (uO_stalls s v) = O_bars s := rfl
theorem xO_triangle_stalls (s : SO) (v : Int32) : O_triangle (uO_stalls s v) = O_triangle s := rfl
theorem xO_costs_stalls (s : SO) (v : Int32) : O_costs (uO_stalls s v) = O_costs s := rfl
theorem xO_dones_stalls (s : SO) (v : Int32) : O_dones (uO_stalls s v) = O_dones s := rfl
theorem xO_row_stalls (s : SO) (v : Int32) : O_row (uO_stalls s v) = O_row s := rfl
theorem xO_up_stalls (s : SO) (v : Int32) : O_up (uO_stalls s v) = O_up s := rfl
theorem xO_down_stalls (s : SO) (v : Int32) : O_down (uO_stalls s v) = O_down s := rfl
theorem xO_soldSteps_stalls (s : SO) (v : Int32) : O_soldSteps (uO_stalls s v) = O_soldSteps s := rfl
theorem zO_stalls (s : SO) (v w : Int32) : uO_stalls (uO_stalls s v) w = uO_stalls s w := rfl
theorem xO_thrown_ways (s : SO) (v : Int32) : O_thrown (uO_ways s v) = O_thrown s := rfl
theorem xO_trace_ways (s : SO) (v : Int32) : O_trace (uO_ways s v) = O_trace s := rfl
theorem xO_s_ways (s : SO) (v : Int32) : O_s (uO_ways s v) = O_s s := rfl
theorem xO_kept_ways (s : SO) (v : Int32) : O_kept (uO_ways s v) = O_kept s := rfl
theorem xO_isKept_ways (s : SO) (v : Int32) : O_isKept (uO_ways s v) = O_isKept s := rfl
theorem xO_latest_ways (s : SO) (v : Int32) : O_latest (uO_ways s v) = O_latest s := rfl
theorem xO_text_ways (s : SO) (v : Int32) : O_text (uO_ways s v) = O_text s := rfl
theorem xO_typed_ways (s : SO) (v : Int32) : O_typed (uO_ways s v) = O_typed s := rfl
theorem xO_next_ways (s : SO) (v : Int32) : O_next (uO_ways s v) = O_next s := rfl
theorem xO_token_ways (s : SO) (v : Int32) : O_token (uO_ways s v) = O_token s := rfl
theorem xO_place_ways (s : SO) (v : Int32) : O_place (uO_ways s v) = O_place s := rfl
theorem xO_value_ways (s : SO) (v : Int32) : O_value (uO_ways s v) = O_value s := rfl
theorem xO_fault_ways (s : SO) (v : Int32) : O_fault (uO_ways s v) = O_fault s := rfl
theorem xO_luck_ways (s : SO) (v : Int32) : O_luck (uO_ways s v) = O_luck s := rfl
theorem xO_stall_ways (s : SO) (v : Int32) : O_stall (uO_ways s v) = O_stall s := rfl
theorem xO_way_ways (s : SO) (v : Int32) : O_way (uO_ways s v) = O_way s := rfl
theorem xO_stalls_ways (s : SO) (v : Int32) : O_stalls (uO_ways s v) = O_stalls s := rfl
theorem xO_ways_ways (s : SO) (v : Int32) : O_ways (uO_ways s v) = v := rfl
theorem xO_draftStalls_ways (s : SO) (v : Int32) : O_draftStalls (uO_ways s v) = O_draftStalls s := rfl
theorem xO_draftWays_ways (s : SO) (v : Int32) : O_draftWays (uO_ways s v) = O_draftWays s := rfl
theorem xO_beliefs_ways (s : SO) (v : Int32) : O_beliefs (uO_ways s v) = O_beliefs s := rfl
theorem xO_bars_ways (s : SO) (v : Int32) : O_bars (uO_ways s v) = O_bars s := rfl
theorem xO_triangle_ways (s : SO) (v : Int32) : O_triangle (uO_ways s v) = O_triangle s := rfl
theorem xO_costs_ways (s : SO) (v : Int32) : O_costs (uO_ways s v) = O_costs s := rfl
theorem xO_dones_ways (s : SO) (v : Int32) : O_dones (uO_ways s v) = O_dones s := rfl
theorem xO_row_ways (s : SO) (v : Int32) : O_row (uO_ways s v) = O_row s := rfl
theorem xO_up_ways (s : SO) (v : Int32) : O_up (uO_ways s v) = O_up s := rfl
theorem xO_down_ways (s : SO) (v : Int32) : O_down (uO_ways s v) = O_down s := rfl
theorem xO_soldSteps_ways (s : SO) (v : Int32) : O_soldSteps (uO_ways s v) = O_soldSteps s := rfl
theorem zO_ways (s : SO) (v w : Int32) : uO_ways (uO_ways s v) w = uO_ways s w := rfl
theorem xO_thrown_draftStalls (s : SO) (v : Int32) : O_thrown (uO_draftStalls s v) = O_thrown s := rfl
theorem xO_trace_draftStalls (s : SO) (v : Int32) : O_trace (uO_draftStalls s v) = O_trace s := rfl
theorem xO_s_draftStalls (s : SO) (v : Int32) : O_s (uO_draftStalls s v) = O_s s := rfl
theorem xO_kept_draftStalls (s : SO) (v : Int32) : O_kept (uO_draftStalls s v) = O_kept s := rfl
theorem xO_isKept_draftStalls (s : SO) (v : Int32) : O_isKept (uO_draftStalls s v) = O_isKept s := rfl
theorem xO_latest_draftStalls (s : SO) (v : Int32) : O_latest (uO_draftStalls s v) = O_latest s := rfl
theorem xO_text_draftStalls (s : SO) (v : Int32) : O_text (uO_draftStalls s v) = O_text s := rfl
theorem xO_typed_draftStalls (s : SO) (v : Int32) : O_typed (uO_draftStalls s v) = O_typed s := rfl
theorem xO_next_draftStalls (s : SO) (v : Int32) : O_next (uO_draftStalls s v) = O_next s := rfl
theorem xO_token_draftStalls (s : SO) (v : Int32) : O_token (uO_draftStalls s v) = O_token s := rfl
theorem xO_place_draftStalls (s : SO) (v : Int32) : O_place (uO_draftStalls s v) = O_place s := rfl
theorem xO_value_draftStalls (s : SO) (v : Int32) : O_value (uO_draftStalls s v) = O_value s := rfl
theorem xO_fault_draftStalls (s : SO) (v : Int32) : O_fault (uO_draftStalls s v) = O_fault s := rfl
theorem xO_luck_draftStalls (s : SO) (v : Int32) : O_luck (uO_draftStalls s v) = O_luck s := rfl
theorem xO_stall_draftStalls (s : SO) (v : Int32) : O_stall (uO_draftStalls s v) = O_stall s := rfl
theorem xO_way_draftStalls (s : SO) (v : Int32) : O_way (uO_draftStalls s v) = O_way s := rfl
theorem xO_stalls_draftStalls (s : SO) (v : Int32) : O_stalls (uO_draftStalls s v) = O_stalls s := rfl
theorem xO_ways_draftStalls (s : SO) (v : Int32) : O_ways (uO_draftStalls s v) = O_ways s := rfl
theorem xO_draftStalls_draftStalls (s : SO) (v : Int32) : O_draftStalls (uO_draftStalls s v) = v := rfl
theorem xO_draftWays_draftStalls (s : SO) (v : Int32) : O_draftWays (uO_draftStalls s v) = O_draftWays s := rfl
theorem xO_beliefs_draftStalls (s : SO) (v : Int32) : O_beliefs (uO_draftStalls s v) = O_beliefs s := rfl
theorem xO_bars_draftStalls (s : SO) (v : Int32) : O_bars (uO_draftStalls s v) = O_bars s := rfl
theorem xO_triangle_draftStalls (s : SO) (v : Int32) : O_triangle (uO_draftStalls s v) = O_triangle s := rfl
theorem xO_costs_draftStalls (s : SO) (v : Int32) : O_costs (uO_draftStalls s v) = O_costs s := rfl
theorem xO_dones_draftStalls (s : SO) (v : Int32) : O_dones (uO_draftStalls s v) = O_dones s := rfl
theorem xO_row_draftStalls (s : SO) (v : Int32) : O_row (uO_draftStalls s v) = O_row s := rfl
theorem xO_up_draftStalls (s : SO) (v : Int32) : O_up (uO_draftStalls s v) = O_up s := rfl
theorem xO_down_draftStalls (s : SO) (v : Int32) : O_down (uO_draftStalls s v) = O_down s := rfl
theorem xO_soldSteps_draftStalls (s : SO) (v : Int32) : O_soldSteps (uO_draftStalls s v) = O_soldSteps s := rfl
theorem zO_draftStalls (s : SO) (v w : Int32) : uO_draftStalls (uO_draftStalls s v) w = uO_draftStalls s w := rfl
theorem xO_thrown_draftWays (s : SO) (v : Int32) : O_thrown (uO_draftWays s v) = O_thrown s := rfl
theorem xO_trace_draftWays (s : SO) (v : Int32) : O_trace (uO_draftWays s v) = O_trace s := rfl
theorem xO_s_draftWays (s : SO) (v : Int32) : O_s (uO_draftWays s v) = O_s s := rfl
theorem xO_kept_draftWays (s : SO) (v : Int32) : O_kept (uO_draftWays s v) = O_kept s := rfl
theorem xO_isKept_draftWays (s : SO) (v : Int32) : O_isKept (uO_draftWays s v) = O_isKept s := rfl
theorem xO_latest_draftWays (s : SO) (v : Int32) : O_latest (uO_draftWays s v) = O_latest s := rfl
theorem xO_text_draftWays (s : SO) (v : Int32) : O_text (uO_draftWays s v) = O_text s := rfl
theorem xO_typed_draftWays (s : SO) (v : Int32) : O_typed (uO_draftWays s v) = O_typed s := rfl
theorem xO_next_draftWays (s : SO) (v : Int32) : O_next (uO_draftWays s v) = O_next s := rfl
theorem xO_token_draftWays (s : SO) (v : Int32) : O_token (uO_draftWays s v) = O_token s := rfl
theorem xO_place_draftWays (s : SO) (v : Int32) : O_place (uO_draftWays s v) = O_place s := rfl
theorem xO_value_draftWays (s : SO) (v : Int32) : O_value (uO_draftWays s v) = O_value s := rfl
theorem xO_fault_draftWays (s : SO) (v : Int32) : O_fault (uO_draftWays s v) = O_fault s := rfl
theorem xO_luck_draftWays (s : SO) (v : Int32) : O_luck (uO_draftWays s v) = O_luck s := rfl
theorem xO_stall_draftWays (s : SO) (v : Int32) : O_stall (uO_draftWays s v) = O_stall s := rfl
theorem xO_way_draftWays (s : SO) (v : Int32) : O_way (uO_draftWays s v) = O_way s := rfl
theorem xO_stalls_draftWays (s : SO) (v : Int32) : O_stalls (uO_draftWays s v) = O_stalls s := rfl
theorem xO_ways_draftWays (s : SO) (v : Int32) : O_ways (uO_draftWays s v) = O_ways s := rfl
theorem xO_draftStalls_draftWays (s : SO) (v : Int32) : O_draftStalls (uO_draftWays s v) = O_draftStalls s := rfl
theorem xO_draftWays_draftWays (s : SO) (v : Int32) : O_draftWays (uO_draftWays s v) = v := rfl
theorem xO_beliefs_draftWays (s : SO) (v : Int32) : O_beliefs (uO_draftWays s v) = O_beliefs s := rfl
theorem xO_bars_draftWays (s : SO) (v : Int32) : O_bars (uO_draftWays s v) = O_bars s := rfl
theorem xO_triangle_draftWays (s : SO) (v : Int32) : O_triangle (uO_draftWays s v) = O_triangle s := rfl
theorem xO_costs_draftWays (s : SO) (v : Int32) : O_costs (uO_draftWays s v) = O_costs s := rfl
theorem xO_dones_draftWays (s : SO) (v : Int32) : O_dones (uO_draftWays s v) = O_dones s := rfl
theorem xO_row_draftWays (s : SO) (v : Int32) : O_row (uO_draftWays s v) = O_row s := rfl
theorem xO_up_draftWays (s : SO) (v : Int32) : O_up (uO_draftWays s v) = O_up s := rfl
theorem xO_down_draftWays (s : SO) (v : Int32) : O_down (uO_draftWays s v) = O_down s := rfl
theorem xO_soldSteps_draftWays (s : SO) (v : Int32) : O_soldSteps (uO_draftWays s v) = O_soldSteps s := rfl
theorem zO_draftWays (s : SO) (v w : Int32) : uO_draftWays (uO_draftWays s v) w = uO_draftWays s w := rfl
theorem xO_thrown_beliefs (s : SO) (v : (Nat → Int32)) : O_thrown (uO_beliefs s v) = O_thrown s := rfl
theorem xO_trace_beliefs (s : SO) (v : (Nat → Int32)) : O_trace (uO_beliefs s v) = O_trace s := rfl
theorem xO_s_beliefs (s : SO) (v : (Nat → Int32)) : O_s (uO_beliefs s v) = O_s s := rfl
theorem xO_kept_beliefs (s : SO) (v : (Nat → Int32)) : O_kept (uO_beliefs s v) = O_kept s := rfl
theorem xO_isKept_beliefs (s : SO) (v : (Nat → Int32)) : O_isKept (uO_beliefs s v) = O_isKept s := rfl
theorem xO_latest_beliefs (s : SO) (v : (Nat → Int32)) : O_latest (uO_beliefs s v) = O_latest s := rfl
theorem xO_text_beliefs (s : SO) (v : (Nat → Int32)) : O_text (uO_beliefs s v) = O_text s := rfl
theorem xO_typed_beliefs (s : SO) (v : (Nat → Int32)) : O_typed (uO_beliefs s v) = O_typed s := rfl
theorem xO_next_beliefs (s : SO) (v : (Nat → Int32)) : O_next (uO_beliefs s v) = O_next s := rfl
theorem xO_token_beliefs (s : SO) (v : (Nat → Int32)) : O_token (uO_beliefs s v) = O_token s := rfl
theorem xO_place_beliefs (s : SO) (v : (Nat → Int32)) : O_place (uO_beliefs s v) = O_place s := rfl
theorem xO_value_beliefs (s : SO) (v : (Nat → Int32)) : O_value (uO_beliefs s v) = O_value s := rfl
theorem xO_fault_beliefs (s : SO) (v : (Nat → Int32)) : O_fault (uO_beliefs s v) = O_fault s := rfl
theorem xO_luck_beliefs (s : SO) (v : (Nat → Int32)) : O_luck (uO_beliefs s v) = O_luck s := rfl
theorem xO_stall_beliefs (s : SO) (v : (Nat → Int32)) : O_stall (uO_beliefs s v) = O_stall s := rfl
theorem xO_way_beliefs (s : SO) (v : (Nat → Int32)) : O_way (uO_beliefs s v) = O_way s := rfl
theorem xO_stalls_beliefs (s : SO) (v : (Nat → Int32)) : O_stalls (uO_beliefs s v) = O_stalls s := rfl
theorem xO_ways_beliefs (s : SO) (v : (Nat → Int32)) : O_ways (uO_beliefs s v) = O_ways s := rfl
theorem xO_draftStalls_beliefs (s : SO) (v : (Nat → Int32)) : O_draftStalls (uO_beliefs s v) = O_draftStalls s := rfl
theorem xO_draftWays_beliefs (s : SO) (v : (Nat → Int32)) : O_draftWays (uO_beliefs s v) = O_draftWays s := rfl
theorem xO_beliefs_beliefs (s : SO) (v : (Nat → Int32)) : O_beliefs (uO_beliefs s v) = v := rfl
theorem xO_bars_beliefs (s : SO) (v : (Nat → Int32)) : O_bars (uO_beliefs s v) = O_bars s := rfl
theorem xO_triangle_beliefs (s : SO) (v : (Nat → Int32)) : O_triangle (uO_beliefs s v) = O_triangle s := rfl
theorem xO_costs_beliefs (s : SO) (v : (Nat → Int32)) : O_costs (uO_beliefs s v) = O_costs s := rfl
theorem xO_dones_beliefs (s : SO) (v : (Nat → Int32)) : O_dones (uO_beliefs s v) = O_dones s := rfl
theorem xO_row_beliefs (s : SO) (v : (Nat → Int32)) : O_row (uO_beliefs s v) = O_row s := rfl
theorem xO_up_beliefs (s : SO) (v : (Nat → Int32)) : O_up (uO_beliefs s v) = O_up s := rfl
theorem xO_down_beliefs (s : SO) (v : (Nat → Int32)) : O_down (uO_beliefs s v) = O_down s := rfl
theorem xO_soldSteps_beliefs (s : SO) (v : (Nat → Int32)) : O_soldSteps (uO_beliefs s v) = O_soldSteps s := rfl
theorem zO_beliefs (s : SO) (v w : (Nat → Int32)) : uO_beliefs (uO_beliefs s v) w = uO_beliefs s w := rfl
theorem xO_thrown_bars (s : SO) (v : (Nat → Int32)) : O_thrown (uO_bars s v) = O_thrown s := rfl
theorem xO_trace_bars (s : SO) (v : (Nat → Int32)) : O_trace (uO_bars s v) = O_trace s := rfl
theorem xO_s_bars (s : SO) (v : (Nat → Int32)) : O_s (uO_bars s v) = O_s s := rfl
theorem xO_kept_bars (s : SO) (v : (Nat → Int32)) : O_kept (uO_bars s v) = O_kept s := rfl
theorem xO_isKept_bars (s : SO) (v : (Nat → Int32)) : O_isKept (uO_bars s v) = O_isKept s := rfl
theorem xO_latest_bars (s : SO) (v : (Nat → Int32)) : O_latest (uO_bars s v) = O_latest s := rfl
theorem xO_text_bars (s : SO) (v : (Nat → Int32)) : O_text (uO_bars s v) = O_text s := rfl
theorem xO_typed_bars (s : SO) (v : (Nat → Int32)) : O_typed (uO_bars s v) = O_typed s := rfl
theorem xO_next_bars (s : SO) (v : (Nat → Int32)) : O_next (uO_bars s v) = O_next s := rfl
theorem xO_token_bars (s : SO) (v : (Nat → Int32)) : O_token (uO_bars s v) = O_token s := rfl
theorem xO_place_bars (s : SO) (v : (Nat → Int32)) : O_place (uO_bars s v) = O_place s := rfl
theorem xO_value_bars (s : SO) (v : (Nat → Int32)) : O_value (uO_bars s v) = O_value s := rfl
theorem xO_fault_bars (s : SO) (v : (Nat → Int32)) : O_fault (uO_bars s v) = O_fault s := rfl
theorem xO_luck_bars (s : SO) (v : (Nat → Int32)) : O_luck (uO_bars s v) = O_luck s := rfl
theorem xO_stall_bars (s : SO) (v : (Nat → Int32)) : O_stall (uO_bars s v) = O_stall s := rfl
theorem xO_way_bars (s : SO) (v : (Nat → Int32)) : O_way (uO_bars s v) = O_way s := rfl
theorem xO_stalls_bars (s : SO) (v : (Nat → Int32)) : O_stalls (uO_bars s v) = O_stalls s := rfl
theorem xO_ways_bars (s : SO) (v : (Nat → Int32)) : O_ways (uO_bars s v) = O_ways s := rfl
theorem xO_draftStalls_bars (s : SO) (v : (Nat → Int32)) : O_draftStalls (uO_bars s v) = O_draftStalls s := rfl
theorem xO_draftWays_bars (s : SO) (v : (Nat → Int32)) : O_draftWays (uO_bars s v) = O_draftWays s := rfl
theorem xO_beliefs_bars (s : SO) (v : (Nat → Int32)) : O_beliefs (uO_bars s v) = O_beliefs s := rfl
theorem xO_bars_bars (s : SO) (v : (Nat → Int32)) : O_bars (uO_bars s v) = v := rfl
theorem xO_triangle_bars (s : SO) (v : (Nat → Int32)) : O_triangle (uO_bars s v) = O_triangle s := rfl
theorem xO_costs_bars (s : SO) (v : (Nat → Int32)) : O_costs (uO_bars s v) = O_costs s := rfl
theorem xO_dones_bars (s : SO) (v : (Nat → Int32)) : O_dones (uO_bars s v) = O_dones s := rfl
theorem xO_row_bars (s : SO) (v : (Nat → Int32)) : O_row (uO_bars s v) = O_row s := rfl
theorem xO_up_bars (s : SO) (v : (Nat → Int32)) : O_up (uO_bars s v) = O_up s := rfl
theorem xO_down_bars (s : SO) (v : (Nat → Int32)) : O_down (uO_bars s v) = O_down s := rfl
theorem xO_soldSteps_bars (s : SO) (v : (Nat → Int32)) : O_soldSteps (uO_bars s v) = O_soldSteps s := rfl
theorem zO_bars (s : SO) (v w : (Nat → Int32)) : uO_bars (uO_bars s v) w = uO_bars s w := rfl
theorem xO_thrown_triangle (s : SO) (v : (Nat → Int64)) : O_thrown (uO_triangle s v) = O_thrown s := rfl
theorem xO_trace_triangle (s : SO) (v : (Nat → Int64)) : O_trace (uO_triangle s v) = O_trace s := rfl
theorem xO_s_triangle (s : SO) (v : (Nat → Int64)) : O_s (uO_triangle s v) = O_s s := rfl
theorem xO_kept_triangle (s : SO) (v : (Nat → Int64)) : O_kept (uO_triangle s v) = O_kept s := rfl
theorem xO_isKept_triangle (s : SO) (v : (Nat → Int64)) : O_isKept (uO_triangle s v) = O_isKept s := rfl
theorem xO_latest_triangle (s : SO) (v : (Nat → Int64)) : O_latest (uO_triangle s v) = O_latest s := rfl
theorem xO_text_triangle (s : SO) (v : (Nat → Int64)) : O_text (uO_triangle s v) = O_text s := rfl
theorem xO_typed_triangle (s : SO) (v : (Nat → Int64)) : O_typed (uO_triangle s v) = O_typed s := rfl
theorem xO_next_triangle (s : SO) (v : (Nat → Int64)) : O_next (uO_triangle s v) = O_next s := rfl
theorem xO_token_triangle (s : SO) (v : (Nat → Int64)) : O_token (uO_triangle s v) = O_token s := rfl
theorem xO_place_triangle (s : SO) (v : (Nat → Int64)) : O_place (uO_triangle s v) = O_place s := rfl
theorem xO_value_triangle (s : SO) (v : (Nat → Int64)) : O_value (uO_triangle s v) = O_value s := rfl
theorem xO_fault_triangle (s : SO) (v : (Nat → Int64)) : O_fault (uO_triangle s v) = O_fault s := rfl
theorem xO_luck_triangle (s : SO) (v : (Nat → Int64)) : O_luck (uO_triangle s v) = O_luck s := rfl
theorem xO_stall_triangle (s : SO) (v : (Nat → Int64)) : O_stall (uO_triangle s v) = O_stall s := rfl
theorem xO_way_triangle (s : SO) (v : (Nat → Int64)) : O_way (uO_triangle s v) = O_way s := rfl
theorem xO_stalls_triangle (s : SO) (v : (Nat → Int64)) : O_stalls (uO_triangle s v) = O_stalls s := rfl
theorem xO_ways_triangle (s : SO) (v : (Nat → Int64)) : O_ways (uO_triangle s v) = O_ways s := rfl
theorem xO_draftStalls_triangle (s : SO) (v : (Nat → Int64)) : O_draftStalls (uO_triangle s v) = O_draftStalls s := rfl
theorem xO_draftWays_triangle (s : SO) (v : (Nat → Int64)) : O_draftWays (uO_triangle s v) = O_draftWays s := rfl
theorem xO_beliefs_triangle (s : SO) (v : (Nat → Int64)) : O_beliefs (uO_triangle s v) = O_beliefs s := rfl
theorem xO_bars_triangle (s : SO) (v : (Nat → Int64)) : O_bars (uO_triangle s v) = O_bars s := rfl
theorem xO_triangle_triangle (s : SO) (v : (Nat → Int64)) : O_triangle (uO_triangle s v) = v := rfl
theorem xO_costs_triangle (s : SO) (v : (Nat → Int64)) : O_costs (uO_triangle s v) = O_costs s := rfl
theorem xO_dones_triangle (s : SO) (v : (Nat → Int64)) : O_dones (uO_triangle s v) = O_dones s := rfl
theorem xO_row_triangle (s : SO) (v : (Nat → Int64)) : O_row (uO_triangle s v) = O_row s := rfl
theorem xO_up_triangle (s : SO) (v : (Nat → Int64)) : O_up (uO_triangle s v) = O_up s := rfl
theorem xO_down_triangle (s : SO) (v : (Nat → Int64)) : O_down (uO_triangle s v) = O_down s := rfl
theorem xO_soldSteps_triangle (s : SO) (v : (Nat → Int64)) : O_soldSteps (uO_triangle s v) = O_soldSteps s := rfl
theorem zO_triangle (s : SO) (v w : (Nat → Int64)) : uO_triangle (uO_triangle s v) w = uO_triangle s w := rfl
theorem xO_thrown_costs (s : SO) (v : (Nat → Int64)) : O_thrown (uO_costs s v) = O_thrown s := rfl
theorem xO_trace_costs (s : SO) (v : (Nat → Int64)) : O_trace (uO_costs s v) = O_trace s := rfl
theorem xO_s_costs (s : SO) (v : (Nat → Int64)) : O_s (uO_costs s v) = O_s s := rfl
theorem xO_kept_costs (s : SO) (v : (Nat → Int64)) : O_kept (uO_costs s v) = O_kept s := rfl
theorem xO_isKept_costs (s : SO) (v : (Nat → Int64)) : O_isKept (uO_costs s v) = O_isKept s := rfl
theorem xO_latest_costs (s : SO) (v : (Nat → Int64)) : O_latest (uO_costs s v) = O_latest s := rfl
theorem xO_text_costs (s : SO) (v : (Nat → Int64)) : O_text (uO_costs s v) = O_text s := rfl
theorem xO_typed_costs (s : SO) (v : (Nat → Int64)) : O_typed (uO_costs s v) = O_typed s := rfl
theorem xO_next_costs (s : SO) (v : (Nat → Int64)) : O_next (uO_costs s v) = O_next s := rfl
theorem xO_token_costs (s : SO) (v : (Nat → Int64)) : O_token (uO_costs s v) = O_token s := rfl
theorem xO_place_costs (s : SO) (v : (Nat → Int64)) : O_place (uO_costs s v) = O_place s := rfl
theorem xO_value_costs (s : SO) (v : (Nat → Int64)) : O_value (uO_costs s v) = O_value s := rfl
theorem xO_fault_costs (s : SO) (v : (Nat → Int64)) : O_fault (uO_costs s v) = O_fault s := rfl
theorem xO_luck_costs (s : SO) (v : (Nat → Int64)) : O_luck (uO_costs s v) = O_luck s := rfl
theorem xO_stall_costs (s : SO) (v : (Nat → Int64)) : O_stall (uO_costs s v) = O_stall s := rfl
theorem xO_way_costs (s : SO) (v : (Nat → Int64)) : O_way (uO_costs s v) = O_way s := rfl
theorem xO_stalls_costs (s : SO) (v : (Nat → Int64)) : O_stalls (uO_costs s v) = O_stalls s := rfl
theorem xO_ways_costs (s : SO) (v : (Nat → Int64)) : O_ways (uO_costs s v) = O_ways s := rfl
theorem xO_draftStalls_costs (s : SO) (v : (Nat → Int64)) : O_draftStalls (uO_costs s v) = O_draftStalls s := rfl
theorem xO_draftWays_costs (s : SO) (v : (Nat → Int64)) : O_draftWays (uO_costs s v) = O_draftWays s := rfl
theorem xO_beliefs_costs (s : SO) (v : (Nat → Int64)) : O_beliefs (uO_costs s v) = O_beliefs s := rfl
theorem xO_bars_costs (s : SO) (v : (Nat → Int64)) : O_bars (uO_costs s v) = O_bars s := rfl
theorem xO_triangle_costs (s : SO) (v : (Nat → Int64)) : O_triangle (uO_costs s v) = O_triangle s := rfl
theorem xO_costs_costs (s : SO) (v : (Nat → Int64)) : O_costs (uO_costs s v) = v := rfl
theorem xO_dones_costs (s : SO) (v : (Nat → Int64)) : O_dones (uO_costs s v) = O_dones s := rfl
theorem xO_row_costs (s : SO) (v : (Nat → Int64)) : O_row (uO_costs s v) = O_row s := rfl
theorem xO_up_costs (s : SO) (v : (Nat → Int64)) : O_up (uO_costs s v) = O_up s := rfl
theorem xO_down_costs (s : SO) (v : (Nat → Int64)) : O_down (uO_costs s v) = O_down s := rfl
theorem xO_soldSteps_costs (s : SO) (v : (Nat → Int64)) : O_soldSteps (uO_costs s v) = O_soldSteps s := rfl
theorem zO_costs (s : SO) (v w : (Nat → Int64)) : uO_costs (uO_costs s v) w = uO_costs s w := rfl
theorem xO_thrown_dones (s : SO) (v : (Nat → Int32)) : O_thrown (uO_dones s v) = O_thrown s := rfl
theorem xO_trace_dones (s : SO) (v : (Nat → Int32)) : O_trace (uO_dones s v) = O_trace s := rfl
theorem xO_s_dones (s : SO) (v : (Nat → Int32)) : O_s (uO_dones s v) = O_s s := rfl
theorem xO_kept_dones (s : SO) (v : (Nat → Int32)) : O_kept (uO_dones s v) = O_kept s := rfl
theorem xO_isKept_dones (s : SO) (v : (Nat → Int32)) : O_isKept (uO_dones s v) = O_isKept s := rfl
theorem xO_latest_dones (s : SO) (v : (Nat → Int32)) : O_latest (uO_dones s v) = O_latest s := rfl
theorem xO_text_dones (s : SO) (v : (Nat → Int32)) : O_text (uO_dones s v) = O_text s := rfl
theorem xO_typed_dones (s : SO) (v : (Nat → Int32)) : O_typed (uO_dones s v) = O_typed s := rfl
theorem xO_next_dones (s : SO) (v : (Nat → Int32)) : O_next (uO_dones s v) = O_next s := rfl
theorem xO_token_dones (s : SO) (v : (Nat → Int32)) : O_token (uO_dones s v) = O_token s := rfl
theorem xO_place_dones (s : SO) (v : (Nat → Int32)) : O_place (uO_dones s v) = O_place s := rfl
theorem xO_value_dones (s : SO) (v : (Nat → Int32)) : O_value (uO_dones s v) = O_value s := rfl
theorem xO_fault_dones (s : SO) (v : (Nat → Int32)) : O_fault (uO_dones s v) = O_fault s := rfl
theorem xO_luck_dones (s : SO) (v : (Nat → Int32)) : O_luck (uO_dones s v) = O_luck s := rfl
theorem xO_stall_dones (s : SO) (v : (Nat → Int32)) : O_stall (uO_dones s v) = O_stall s := rfl
theorem xO_way_dones (s : SO) (v : (Nat → Int32)) : O_way (uO_dones s v) = O_way s := rfl
theorem xO_stalls_dones (s : SO) (v : (Nat → Int32)) : O_stalls (uO_dones s v) = O_stalls s := rfl
theorem xO_ways_dones (s : SO) (v : (Nat → Int32)) : O_ways (uO_dones s v) = O_ways s := rfl
theorem xO_draftStalls_dones (s : SO) (v : (Nat → Int32)) : O_draftStalls (uO_dones s v) = O_draftStalls s := rfl
theorem xO_draftWays_dones (s : SO) (v : (Nat → Int32)) : O_draftWays (uO_dones s v) = O_draftWays s := rfl
theorem xO_beliefs_dones (s : SO) (v : (Nat → Int32)) : O_beliefs (uO_dones s v) = O_beliefs s := rfl
theorem xO_bars_dones (s : SO) (v : (Nat → Int32)) : O_bars (uO_dones s v) = O_bars s := rfl
theorem xO_triangle_dones (s : SO) (v : (Nat → Int32)) : O_triangle (uO_dones s v) = O_triangle s := rfl
theorem xO_costs_dones (s : SO) (v : (Nat → Int32)) : O_costs (uO_dones s v) = O_costs s := rfl
theorem xO_dones_dones (s : SO) (v : (Nat → Int32)) : O_dones (uO_dones s v) = v := rfl
theorem xO_row_dones (s : SO) (v : (Nat → Int32)) : O_row (uO_dones s v) = O_row s := rfl
theorem xO_up_dones (s : SO) (v : (Nat → Int32)) : O_up (uO_dones s v) = O_up s := rfl
theorem xO_down_dones (s : SO) (v : (Nat → Int32)) : O_down (uO_dones s v) = O_down s := rfl
theorem xO_soldSteps_dones (s : SO) (v : (Nat → Int32)) : O_soldSteps (uO_dones s v) = O_soldSteps s := rfl
theorem zO_dones (s : SO) (v w : (Nat → Int32)) : uO_dones (uO_dones s v) w = uO_dones s w := rfl
theorem xO_thrown_row (s : SO) (v : (Nat → Int32)) : O_thrown (uO_row s v) = O_thrown s := rfl
theorem xO_trace_row (s : SO) (v : (Nat → Int32)) : O_trace (uO_row s v) = O_trace s := rfl
theorem xO_s_row (s : SO) (v : (Nat → Int32)) : O_s (uO_row s v) = O_s s := rfl
theorem xO_kept_row (s : SO) (v : (Nat → Int32)) : O_kept (uO_row s v) = O_kept s := rfl
theorem xO_isKept_row (s : SO) (v : (Nat → Int32)) : O_isKept (uO_row s v) = O_isKept s := rfl
theorem xO_latest_row (s : SO) (v : (Nat → Int32)) : O_latest (uO_row s v) = O_latest s := rfl
theorem xO_text_row (s : SO) (v : (Nat → Int32)) : O_text (uO_row s v) = O_text s := rfl
theorem xO_typed_row (s : SO) (v : (Nat → Int32)) : O_typed (uO_row s v) = O_typed s := rfl
theorem xO_next_row (s : SO) (v : (Nat → Int32)) : O_next (uO_row s v) = O_next s := rfl
theorem xO_token_row (s : SO) (v : (Nat → Int32)) : O_token (uO_row s v) = O_token s := rfl
theorem xO_place_row (s : SO) (v : (Nat → Int32)) : O_place (uO_row s v) = O_place s := rfl
theorem xO_value_row (s : SO) (v : (Nat → Int32)) : O_value (uO_row s v) = O_value s := rfl
theorem xO_fault_row (s : SO) (v : (Nat → Int32)) : O_fault (uO_row s v) = O_fault s := rfl
theorem xO_luck_row (s : SO) (v : (Nat → Int32)) : O_luck (uO_row s v) = O_luck s := rfl
theorem xO_stall_row (s : SO) (v : (Nat → Int32)) : O_stall (uO_row s v) = O_stall s := rfl
theorem xO_way_row (s : SO) (v : (Nat → Int32)) : O_way (uO_row s v) = O_way s := rfl
theorem xO_stalls_row (s : SO) (v : (Nat → Int32)) : O_stalls (uO_row s v) = O_stalls s := rfl
theorem xO_ways_row (s : SO) (v : (Nat → Int32)) : O_ways (uO_row s v) = O_ways s := rfl
theorem xO_draftStalls_row (s : SO) (v : (Nat → Int32)) : O_draftStalls (uO_row s v) = O_draftStalls s := rfl
theorem xO_draftWays_row (s : SO) (v : (Nat → Int32)) : O_draftWays (uO_row s v) = O_draftWays s := rfl
theorem xO_beliefs_row (s : SO) (v : (Nat → Int32)) : O_beliefs (uO_row s v) = O_beliefs s := rfl
theorem xO_bars_row (s : SO) (v : (Nat → Int32)) : O_bars (uO_row s v) = O_bars s := rfl
theorem xO_triangle_row (s : SO) (v : (Nat → Int32)) : O_triangle (uO_row s v) = O_triangle s := rfl
theorem xO_costs_row (s : SO) (v : (Nat → Int32)) : O_costs (uO_row s v) = O_costs s := rfl
theorem xO_dones_row (s : SO) (v : (Nat → Int32)) : O_dones (uO_row s v) = O_dones s := rfl
theorem xO_row_row (s : SO) (v : (Nat → Int32)) : O_row (uO_row s v) = v := rfl
theorem xO_up_row (s : SO) (v : (Nat → Int32)) : O_up (uO_row s v) = O_up s := rfl
theorem xO_down_row (s : SO) (v : (Nat → Int32)) : O_down (uO_row s v) = O_down s := rfl
theorem xO_soldSteps_row (s : SO) (v : (Nat → Int32)) : O_soldSteps (uO_row s v) = O_soldSteps s := rfl
theorem zO_row (s : SO) (v w : (Nat → Int32)) : uO_row (uO_row s v) w = uO_row s w := rfl
theorem xO_thrown_up (s : SO) (v : Int64) : O_thrown (uO_up s v) = O_thrown s := rfl
theorem xO_trace_up (s : SO) (v : Int64) : O_trace (uO_up s v) = O_trace s := rfl
theorem xO_s_up (s : SO) (v : Int64) : O_s (uO_up s v) = O_s s := rfl
theorem xO_kept_up (s : SO) (v : Int64) : O_kept (uO_up s v) = O_kept s := rfl
theorem xO_isKept_up (s : SO) (v : Int64) : O_isKept (uO_up s v) = O_isKept s := rfl
theorem xO_latest_up (s : SO) (v : Int64) : O_latest (uO_up s v) = O_latest s := rfl
theorem xO_text_up (s : SO) (v : Int64) : O_text (uO_up s v) = O_text s := rfl
theorem xO_typed_up (s : SO) (v : Int64) : O_typed (uO_up s v) = O_typed s := rfl
theorem xO_next_up (s : SO) (v : Int64) : O_next (uO_up s v) = O_next s := rfl
theorem xO_token_up (s : SO) (v : Int64) : O_token (uO_up s v) = O_token s := rfl
theorem xO_place_up (s : SO) (v : Int64) : O_place (uO_up s v) = O_place s := rfl
theorem xO_value_up (s : SO) (v : Int64) : O_value (uO_up s v) = O_value s := rfl
theorem xO_fault_up (s : SO) (v : Int64) : O_fault (uO_up s v) = O_fault s := rfl
theorem xO_luck_up (s : SO) (v : Int64) : O_luck (uO_up s v) = O_luck s := rfl
theorem xO_stall_up (s : SO) (v : Int64) : O_stall (uO_up s v) = O_stall s := rfl
theorem xO_way_up (s : SO) (v : Int64) : O_way (uO_up s v) = O_way s := rfl
theorem xO_stalls_up (s : SO) (v : Int64) : O_stalls (uO_up s v) = O_stalls s := rfl
theorem xO_ways_up (s : SO) (v : Int64) : O_ways (uO_up s v) = O_ways s := rfl
theorem xO_draftStalls_up (s : SO) (v : Int64) : O_draftStalls (uO_up s v) = O_draftStalls s := rfl
theorem xO_draftWays_up (s : SO) (v : Int64) : O_draftWays (uO_up s v) = O_draftWays s := rfl
theorem xO_beliefs_up (s : SO) (v : Int64) : O_beliefs (uO_up s v) = O_beliefs s := rfl
theorem xO_bars_up (s : SO) (v : Int64) : O_bars (uO_up s v) = O_bars s := rfl
theorem xO_triangle_up (s : SO) (v : Int64) : O_triangle (uO_up s v) = O_triangle s := rfl
theorem xO_costs_up (s : SO) (v : Int64) : O_costs (uO_up s v) = O_costs s := rfl
theorem xO_dones_up (s : SO) (v : Int64) : O_dones (uO_up s v) = O_dones s := rfl
theorem xO_row_up (s : SO) (v : Int64) : O_row (uO_up s v) = O_row s := rfl
theorem xO_up_up (s : SO) (v : Int64) : O_up (uO_up s v) = v := rfl
theorem xO_down_up (s : SO) (v : Int64) : O_down (uO_up s v) = O_down s := rfl
theorem xO_soldSteps_up (s : SO) (v : Int64) : O_soldSteps (uO_up s v) = O_soldSteps s := rfl
theorem zO_up (s : SO) (v w : Int64) : uO_up (uO_up s v) w = uO_up s w := rfl
theorem xO_thrown_down (s : SO) (v : Int64) : O_thrown (uO_down s v) = O_thrown s := rfl
theorem xO_trace_down (s : SO) (v : Int64) : O_trace (uO_down s v) = O_trace s := rfl
theorem xO_s_down (s : SO) (v : Int64) : O_s (uO_down s v) = O_s s := rfl
theorem xO_kept_down (s : SO) (v : Int64) : O_kept (uO_down s v) = O_kept s := rfl
theorem xO_isKept_down (s : SO) (v : Int64) : O_isKept (uO_down s v) = O_isKept s := rfl
theorem xO_latest_down (s : SO) (v : Int64) : O_latest (uO_down s v) = O_latest s := rfl
theorem xO_text_down (s : SO) (v : Int64) : O_text (uO_down s v) = O_text s := rfl
theorem xO_typed_down (s : SO) (v : Int64) : O_typed (uO_down s v) = O_typed s := rfl
theorem xO_next_down (s : SO) (v : Int64) : O_next (uO_down s v) = O_next s := rfl
theorem xO_token_down (s : SO) (v : Int64) : O_token (uO_down s v) = O_token s := rfl
theorem xO_place_down (s : SO) (v : Int64) : O_place (uO_down s v) = O_place s := rfl
theorem xO_value_down (s : SO) (v : Int64) : O_value (uO_down s v) = O_value s := rfl
theorem xO_fault_down (s : SO) (v : Int64) : O_fault (uO_down s v) = O_fault s := rfl
theorem xO_luck_down (s : SO) (v : Int64) : O_luck (uO_down s v) = O_luck s := rfl
theorem xO_stall_down (s : SO) (v : Int64) : O_stall (uO_down s v) = O_stall s := rfl
theorem xO_way_down (s : SO) (v : Int64) : O_way (uO_down s v) = O_way s := rfl
theorem xO_stalls_down (s : SO) (v : Int64) : O_stalls (uO_down s v) = O_stalls s := rfl
theorem xO_ways_down (s : SO) (v : Int64) : O_ways (uO_down s v) = O_ways s := rfl
theorem xO_draftStalls_down (s : SO) (v : Int64) : O_draftStalls (uO_down s v) = O_draftStalls s := rfl
theorem xO_draftWays_down (s : SO) (v : Int64) : O_draftWays (uO_down s v) = O_draftWays s := rfl
theorem xO_beliefs_down (s : SO) (v : Int64) : O_beliefs (uO_down s v) = O_beliefs s := rfl
theorem xO_bars_down (s : SO) (v : Int64) : O_bars (uO_down s v) = O_bars s := rfl
theorem xO_triangle_down (s : SO) (v : Int64) : O_triangle (uO_down s v) = O_triangle s := rfl
theorem xO_costs_down (s : SO) (v : Int64) : O_costs (uO_down s v) = O_costs s := rfl
theorem xO_dones_down (s : SO) (v : Int64) : O_dones (uO_down s v) = O_dones s := rfl
theorem xO_row_down (s : SO) (v : Int64) : O_row (uO_down s v) = O_row s := rfl
theorem xO_up_down (s : SO) (v : Int64) : O_up (uO_down s v) = O_up s := rfl
theorem xO_down_down (s : SO) (v : Int64) : O_down (uO_down s v) = v := rfl
theorem xO_soldSteps_down (s : SO) (v : Int64) : O_soldSteps (uO_down s v) = O_soldSteps s := rfl
theorem zO_down (s : SO) (v w : Int64) : uO_down (uO_down s v) w = uO_down s w := rfl
theorem xO_thrown_soldSteps (s : SO) (v : Int32) : O_thrown (uO_soldSteps s v) = O_thrown s := rfl
theorem xO_trace_soldSteps (s : SO) (v : Int32) : O_trace (uO_soldSteps s v) = O_trace s := rfl
theorem xO_s_soldSteps (s : SO) (v : Int32) : O_s (uO_soldSteps s v) = O_s s := rfl
theorem xO_kept_soldSteps (s : SO) (v : Int32) : O_kept (uO_soldSteps s v) = O_kept s := rfl
theorem xO_isKept_soldSteps (s : SO) (v : Int32) : O_isKept (uO_soldSteps s v) = O_isKept s := rfl
theorem xO_latest_soldSteps (s : SO) (v : Int32) : O_latest (uO_soldSteps s v) = O_latest s := rfl
theorem xO_text_soldSteps (s : SO) (v : Int32) : O_text (uO_soldSteps s v) = O_text s := rfl
theorem xO_typed_soldSteps (s : SO) (v : Int32) : O_typed (uO_soldSteps s v) = O_typed s := rfl
theorem xO_next_soldSteps (s : SO) (v : Int32) : O_next (uO_soldSteps s v) = O_next s := rfl
theorem xO_token_soldSteps (s : SO) (v : Int32) : O_token (uO_soldSteps s v) = O_token s := rfl
theorem xO_place_soldSteps (s : SO) (v : Int32) : O_place (uO_soldSteps s v) = O_place s := rfl
theorem xO_value_soldSteps (s : SO) (v : Int32) : O_value (uO_soldSteps s v) = O_value s := rfl
theorem xO_fault_soldSteps (s : SO) (v : Int32) : O_fault (uO_soldSteps s v) = O_fault s := rfl
theorem xO_luck_soldSteps (s : SO) (v : Int32) : O_luck (uO_soldSteps s v) = O_luck s := rfl
theorem xO_stall_soldSteps (s : SO) (v : Int32) : O_stall (uO_soldSteps s v) = O_stall s := rfl
theorem xO_way_soldSteps (s : SO) (v : Int32) : O_way (uO_soldSteps s v) = O_way s := rfl
theorem xO_stalls_soldSteps (s : SO) (v : Int32) : O_stalls (uO_soldSteps s v) = O_stalls s := rfl
theorem xO_ways_soldSteps (s : SO) (v : Int32) : O_ways (uO_soldSteps s v) = O_ways s := rfl
theorem xO_draftStalls_soldSteps (s : SO) (v : Int32) : O_draftStalls (uO_soldSteps s v) = O_draftStalls s := rfl
theorem xO_draftWays_soldSteps (s : SO) (v : Int32) : O_draftWays (uO_soldSteps s v) = O_draftWays s := rfl
theorem xO_beliefs_soldSteps (s : SO) (v : Int32) : O_beliefs (uO_soldSteps s v) = O_beliefs s := rfl
theorem xO_bars_soldSteps (s : SO) (v : Int32) : O_bars (uO_soldSteps s v) = O_bars s := rfl
theorem xO_triangle_soldSteps (s : SO) (v : Int32) : O_triangle (uO_soldSteps s v) = O_triangle s := rfl
theorem xO_costs_soldSteps (s : SO) (v : Int32) : O_costs (uO_soldSteps s v) = O_costs s := rfl
theorem xO_dones_soldSteps (s : SO) (v : Int32) : O_dones (uO_soldSteps s v) = O_dones s := rfl
theorem xO_row_soldSteps (s : SO) (v : Int32) : O_row (uO_soldSteps s v) = O_row s := rfl
theorem xO_up_soldSteps (s : SO) (v : Int32) : O_up (uO_soldSteps s v) = O_up s := rfl
theorem xO_down_soldSteps (s : SO) (v : Int32) : O_down (uO_soldSteps s v) = O_down s := rfl
theorem xO_soldSteps_soldSteps (s : SO) (v : Int32) : O_soldSteps (uO_soldSteps s v) = v := rfl
theorem zO_soldSteps (s : SO) (v w : Int32) : uO_soldSteps (uO_soldSteps s v) w = uO_soldSteps s w := rfl
