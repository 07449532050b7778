/** The boundary cases of promises 1 to 6: THE TEXT, THE MARKET that it becomes, FAULT. */
public final class TextBoundaryTest {
    private static final int BAD = Check.BAD;
    private static final int STATE = Check.STATE;
    private static final int FULL = Check.FULL;
    private static final int LEAST = Check.LEAST;
    private static final int MOST = Check.MOST;
    private static final String[] SORTS = {"old", "young", "friend", "stranger"};

    public static void main(String[] args) {
        aNewObject();
        bytesOfV();
        typeRefused();
        textFull();
        textCleared();
        emptyMarket();
        itemsCounted();
        sixStalls();
        sixWays();
        luckOnce();
        luckTogether();
        stallNumbers();
        wayNumbers();
        sortsEachOnce();
        onlyBlanks();
        bytesThatBeginNone();
        wordsThatAreNone();
        numbersAreTokens();
        tokensOutOfPlace();
        firstOfTwoFaults();
        endsTooEarly();
        longestTexts();
        faultChangesNothing();
        marketAnew();
        imagesGone();
        stallAsked();
        wayAsked();
        Check.end("TextBoundaryTest");
    }

    private static void fault(String text, int place) {
        ThumbScale x = Scenes.typed(text);
        Check.is("market of \"" + text + "\"", x.market(), -10 - place);
        Check.is("bytes behind the FAULT of \"" + text + "\"", x.clear(), text.length());
    }

    private static void items(String text, int due) {
        ThumbScale x = Scenes.typed(text);
        Check.is("market of \"" + text + "\"", x.market(), due);
        Check.is("bytes behind \"" + text + "\"", x.clear(), 0);
    }

    private static void aNewObject() {
        Check.sentence(1, "As told; THE LOT is 1.");
        ThumbScale x = new ThumbScale();
        int[] counts = {0, 0, 0, 0, 0, 2, 6, 2};
        for (int what = 0; what < 8; what++) {
            Check.is("count " + what, x.count(what), counts[what]);
        }
        Check.is("THE LOT", x.lot(1), 1);
        Check.is("THE TRACE", x.trace(), 0);
        Check.is("steps", x.steps(), 0);
        Check.is("no LOOK", x.counted(2), -2);
        Check.is("no IMAGE 0", x.back(0), STATE);
        Check.is("no IMAGE 1", x.back(1), STATE);
        Check.is("no STALL", x.stall(0, 0), BAD);
        Check.is("no WAY", x.way(0, 0), BAD);
        Check.is("no BAG", x.about(0, 0), Check.NO);
        Check.is("no STALL is CHEAP", x.cheap(), Check.NONE);
        int[] bars = {2, 6, 5, 1, 100, 20, 1, 6};
        for (int k = 0; k < 8; k++) {
            Check.is("BAR " + k, x.bar(k, bars[k]), bars[k]);
        }
        Check.same("an empty MARKET is as a new object", Scenes.FRESH, Scenes.FRESH.with(ThumbScale::market));
    }

    private static void bytesOfV() {
        Check.sentence(2, "The lowest n (1 .. 8) bytes of v, the highest of them first, come to THE TEXT: how many it has.");
        String text = "stall 1 0 0;way thumb 12 in 3 to old young;";
        for (int n = 1; n <= 8; n++) {
            ThumbScale x = new ThumbScale();
            int typed = 0;
            while (typed < text.length()) {
                int now = Math.min(n, text.length() - typed);
                // above the lowest bytes stand others, which must stay out
                long v = 0x5a5a5a5a5a5a5a5aL;
                for (int i = 0; i < now; i++) {
                    v = v << 8 | text.charAt(typed + i);
                }
                typed += now;
                Check.is("type by " + n, x.type(v, now), typed);
            }
            Check.is("market by " + n, x.market(), 2);
            Check.is("N by " + n, x.way(0, 1), 12);
            Check.is("SORTS by " + n, x.way(0, 3), 3);
        }
        ThumbScale high = new ThumbScale();
        Check.is("the highest bit", high.type(Long.MIN_VALUE, 8), 8);
        Check.is("a byte of 128 begins none", high.market(), -10);
        ThumbScale low = new ThumbScale();
        Check.is("the lowest of -1", low.type(-1L, 1), 1);
        Check.is("a byte of 255 begins none", low.market(), -10);
        ThumbScale blank = new ThumbScale();
        Check.is("a blank alone of v", blank.type(0xffffffffffffff20L, 1), 1);
        Check.is("a market of blanks", blank.market(), 0);
    }

    private static void typeRefused() {
        Check.sentence(2, "BAD; FULL.");
        for (Stage stage : new Stage[] {Scenes.FRESH, Scenes.BUSY, Scenes.BRIM}) {
            for (int n : new int[] {0, 9, -1, LEAST, MOST}) {
                Check.refused(stage, "type of " + n, BAD, x -> x.type(0x2020202020202020L, n));
            }
        }
    }

    private static void textFull() {
        Check.sentence(2, "THE MARKET is a text (400 bytes at most)");
        for (int n = 1; n <= 8; n++) {
            int bytes = n;
            Stage almost = new Stage(() -> Scenes.typed(" ".repeat(400 - bytes)));
            Check.is("the last " + n, almost.make().type(0x2020202020202020L, n), 400);
            Stage tooFull = new Stage(() -> Scenes.typed(" ".repeat(401 - bytes)));
            Check.refused(tooFull, "one byte too many by " + n, FULL, x -> x.type(0x2020202020202020L, bytes));
            Check.refused(Scenes.BRIM, "400 and " + n, FULL, x -> x.type(0x2020202020202020L, bytes));
        }
        ThumbScale x = Scenes.typed(" ".repeat(395));
        Check.is("eight come not in part", x.type(-1L, 8), FULL);
        Check.is("five come still", x.type(0x2020202020L, 5), 400);
        Check.is("400 blanks", x.market(), 0);
        Check.is("room again", x.type(32, 1), 1);
    }

    private static void textCleared() {
        Check.sentence(3, "THE TEXT is empty: how many bytes it had.");
        Check.is("none", new ThumbScale().clear(), 0);
        Check.is("400", Scenes.BRIM.make().clear(), 400);
        Check.same("to clear an empty one", Scenes.FRESH, Scenes.FRESH.with(ThumbScale::clear));
        Check.same("to clear twice", Scenes.BUSY.with(ThumbScale::clear), Scenes.BUSY.with(x -> x.clear() + x.clear()));
        Check.same("nothing else is cleared", Scenes.busyWith(""), Scenes.busyWith("stall 1").with(ThumbScale::clear));
        ThumbScale x = Scenes.BRIM.make();
        x.clear();
        Check.is("room for eight", x.type(0, 8), 8);
        Check.is("of these", x.clear(), 8);
    }

    private static void emptyMarket() {
        Check.sentence(4, "THE TEXT becomes THE MARKET, and is empty then: how many ITEMS.");
        items("", 0);
        items(" ", 0);
        items(" ".repeat(400), 0);
        ThumbScale x = Scenes.BUSY.make();
        x.clear();
        Check.is("nothing told anew", x.market(), 0);
        Check.is("no STALLS", x.count(0), 0);
        Check.is("no WAYS", x.count(1), 0);
        Check.is("BAD: no STALL", x.stall(0, 0), BAD);
        Check.is("BAD: no WAY", x.belief(0, 1), BAD);
        Check.is("market of an empty text again", x.market(), 0);
        ThumbScale once = Scenes.of("way honest;");
        Check.is("THE TEXT is empty", once.count(4), 0);
        Check.is("it is not read twice", once.market(), 0);
        Check.is("no WAYS", once.count(1), 0);
    }

    private static void itemsCounted() {
        Check.sentence(4, "ITEMS, each ended by ;");
        items("way honest;", 1);
        items("luck 2 6 2;", 1);
        items("stall 1 0 0;", 1);
        items(Scenes.SIX, 12);
        items(Scenes.SIX + "luck 0 0 10;", 13);
        fault(";", 0);
        fault(" ;", 1);
        fault("way honest;;", 11);
        fault("way honest ; ;", 13);
        fault("way honest way honest;", 11);
        fault("stall 1 0 0 way honest;", 12);
        fault("luck 2 6 2 luck", 11);
    }

    private static void sixStalls() {
        Check.sentence(4, "a seventh stall or way");
        for (int n = 0; n <= 8; n++) {
            String text = "stall 3 2 1;".repeat(n);
            if (n <= 6) {
                ThumbScale x = Scenes.typed(text);
                Check.is(n + " stalls", x.market(), n);
                Check.is("STALLS", x.count(0), n);
                Check.is("BAD: one more", x.stall(n, 0), BAD);
                Check.is("the last of " + n, x.stall(n - 1, 0), n == 0 ? BAD : 3);
            } else {
                fault(text, 72);
            }
        }
        fault("stall 1 0 0;".repeat(6) + "way honest;  stall", 85);
        items("stall 1 0 0;".repeat(6) + "way honest;", 7);
    }

    private static void sixWays() {
        Check.sentence(4, "WAYS 0 .. (6 at most), each with an M (1, but for a thumb).");
        for (int n = 0; n <= 8; n++) {
            String text = "way scale 7;".repeat(n);
            if (n <= 6) {
                ThumbScale x = Scenes.typed(text);
                Check.is(n + " ways", x.market(), n);
                Check.is("WAYS", x.count(1), n);
                Check.is("BAD: one more", x.way(n, 0), BAD);
                Check.is("M of the last of " + n, x.way(n - 1, 2), n == 0 ? BAD : 1);
            } else {
                fault(text, 72);
            }
        }
        fault("way round;".repeat(6) + "stall 1 0 0; way round;", 73);
        items("way round;".repeat(6) + "stall 1 0 0;", 7);
    }

    private static void luckOnce() {
        Check.sentence(4, "a luck told again");
        fault("luck 2 6 2;luck 2 6 2;", 11);
        fault("luck 2 6 2;way honest; luck 1 1 8;", 23);
        fault("luck 0 0 10;stall 1 0 0;luck", 24);
        ThumbScale x = Scenes.of("luck 0 0 10;");
        Scenes.type(x, "luck 10 0 0;");
        Check.is("once more in a text anew", x.market(), 1);
        Check.is("LESS", x.count(5), 10);
        Check.is("JUST", x.count(6), 0);
        Check.is("MORE", x.count(7), 0);
    }

    private static void luckTogether() {
        Check.sentence(4, "luck A B C (0 .. 10 each, 10 together; once at most)");
        for (int a = 0; a <= 12; a++) {
            for (int b = 0; b <= 12; b++) {
                for (int c = 0; c <= 12; c++) {
                    luck(a, b, c);
                }
            }
        }
        Check.sentence(4, "a C by which it is not 10");
        fault("luck 3 3 3;", 9);
        fault("luck 3 3 5;", 9);
        fault("luck 9 9 2;", 9);
        fault("luck 10 10 0;", 11);
        fault("luck 10 1 99;", 10);
        fault("luck 9 9;", 8);
        fault("luck 9 9", 8);
        fault("luck 99 9 9;", 5);
    }

    private static void luck(int a, int b, int c) {
        String text = "luck " + a + " " + b + " " + c + ";";
        int placeOfB = 6 + Integer.toString(a).length();
        int placeOfC = placeOfB + 1 + Integer.toString(b).length();
        if (a > 10) {
            fault(text, 5);
        } else if (b > 10) {
            fault(text, placeOfB);
        } else if (a + b + c != 10) {
            fault(text, placeOfC);
        } else {
            ThumbScale x = Scenes.typed(text);
            Check.is("market of " + text, x.market(), 1);
            Check.is("LESS of " + text, x.count(5), a);
            Check.is("JUST of " + text, x.count(6), b);
            Check.is("MORE of " + text, x.count(7), c);
        }
    }

    /** Every NUMBER from 0 to 120 in that place: it stands from least to most, and is the FAULT else. */
    private static void numbers(String ahead, String behind, int least, int most, Stage.Call told) {
        for (int v = 0; v <= 120; v++) {
            String text = ahead + v + behind;
            if (v < least || v > most) {
                fault(text, ahead.length());
            } else {
                ThumbScale x = Scenes.typed(text);
                Check.is("market of " + text, x.market(), 1);
                Check.is("the number of " + text, told.on(x), v);
            }
        }
    }

    private static void stallNumbers() {
        Check.sentence(4, "(6 at most) have a STEP (1 .. 20 grains), DRY (0 .. 9), a PRICE (0 .. 99 coins for 100 grains).");
        numbers("stall ", " 0 0;", 1, 20, x -> x.stall(0, 0));
        numbers("stall 20 ", " 0;", 0, 9, x -> x.stall(0, 1));
        numbers("stall 1 9 ", ";", 0, 99, x -> x.stall(0, 2));
    }

    private static void wayNumbers() {
        Check.sentence(4, "(N 1 .. 99 grains, M 1 .. 5)");
        numbers("way scale ", ";", 1, 99, x -> x.way(0, 1));
        numbers("way thumb ", " in 5;", 1, 99, x -> x.way(0, 1));
        numbers("way thumb ", " in 1 to old;", 1, 99, x -> x.way(0, 1));
        numbers("way thumb 99 in ", ";", 1, 5, x -> x.way(0, 2));
        numbers("way thumb 1 in ", " to stranger;", 1, 5, x -> x.way(0, 2));
    }

    private static void sortsEachOnce() {
        Check.sentence(4, "or thumb N in M to SORTS (one or more, each once), or round");
        fault("way thumb 5 in 2 to;", 19);
        fault("way thumb 5 in 2 to ;", 20);
        for (int one = 0; one < 4; one++) {
            String ahead = "way thumb 5 in 2 to " + SORTS[one];
            Check.is("one sort", bitsOf(ahead), 1 << one);
            fault(ahead + " " + SORTS[one] + ";", ahead.length() + 1);
            for (int two = 0; two < 4; two++) {
                if (two == one) {
                    continue;
                }
                String both = ahead + " " + SORTS[two];
                Check.is("two sorts", bitsOf(both), 1 << one | 1 << two);
                fault(both + " " + SORTS[one] + ";", both.length() + 1);
                fault(both + " " + SORTS[two] + ";", both.length() + 1);
            }
        }
        Check.sentence(4, "a SORT told again");
        String all = "way thumb 5 in 2 to stranger friend young old";
        Check.is("all sorts", bitsOf(all), 15);
        for (String sort : SORTS) {
            fault(all + " " + sort + ";", all.length() + 1);
        }
        ThumbScale x = Scenes.of("way thumb 5 in 2 to old;way thumb 5 in 2 to old;");
        Check.is("again in another WAY", x.way(1, 3), 1);
        Check.is("of three", bitsOf("way thumb 1 in 1 to stranger old friend"), 13);
    }

    private static int bitsOf(String way) {
        return Scenes.of(way + ";").way(0, 3);
    }

    private static void onlyBlanks() {
        Check.sentence(4, "read byte by byte, blanks (32) between TOKENS");
        items("   way    honest   ;   ", 1);
        items("way honest;way round;", 2);
        items("way  thumb  5  in  2  to  old  ;", 1);
        for (char other : new char[] {9, 10, 11, 12, 13, 0, 160, 31, 33, 95}) {
            fault("way" + other + "honest;", 3);
            fault(other + "way honest;", 0);
            fault("way honest" + other + ";", 10);
            fault("way honest;" + other, 11);
        }
        // a blank within a TOKEN makes two of it
        fault("st all 1 0 0;", 0);
        fault("way scale 1 2;", 12);
        fault("way hon est;", 4);
    }

    private static void bytesThatBeginNone() {
        Check.sentence(4, "of a byte that begins none, a word that is none of these, "
                + "a NUMBER above 99 or with a 0 ahead of others, that TOKEN's");
        for (char c = 0; c < 256; c++) {
            String behindNumber = "way scale 5" + c + ";";
            if (c == ' ' || c >= '0' && c <= '9') {
                items(behindNumber, 1);
            } else {
                fault(behindNumber, c == ';' ? 12 : 11);
            }
            String behindWord = "way honest" + c + ";";
            if (c == ' ') {
                items(behindWord, 1);
            } else {
                // a letter makes the word longer, so the word is the FAULT
                fault(behindWord, c >= 'a' && c <= 'z' ? 4 : c == ';' ? 11 : 10);
            }
            String ahead = c + "way honest;";
            if (c == ' ') {
                items(ahead, 1);
            } else {
                fault(ahead, 0);
            }
        }
    }

    private static void wordsThatAreNone() {
        Check.sentence(4, "TOKENS are words of letters a .. z (luck, stall, way, honest, scale, thumb, in, to, round, old, "
                + "young, friend, stranger), NUMBERS and ;");
        for (String word : new String[] {"luc", "lucky", "lucks", "luckstall", "Luck", "LUCK", "stal", "stalls", "wa", "ways", "a", "z"}) {
            fault(word + " 2 6 2;", 0);
            fault("way honest; " + word + " 2 6 2;", 12);
        }
        for (String word : new String[] {"hones", "honestly", "scal", "scales", "thum", "thumbs", "roun", "rounds", "Round", "x"}) {
            fault("way " + word + " 5 in 2;", 4);
        }
        for (String word : new String[] {"i", "inn", "o", "on", "ni"}) {
            fault("way thumb 5 " + word + " 2;", 12);
        }
        for (String word : new String[] {"t", "too", "ot"}) {
            fault("way thumb 5 in 2 " + word + " old;", 17);
        }
        for (String word : new String[] {"ol", "olds", "youn", "younger", "frien", "friends", "strange", "strangers", "all"}) {
            fault("way thumb 5 in 2 to " + word + ";", 20);
            fault("way thumb 5 in 2 to old " + word + ";", 24);
        }
    }

    private static void numbersAreTokens() {
        Check.sentence(4, "a NUMBER above 99 or with a 0 ahead of others");
        for (String number : new String[] {"00", "01", "05", "010", "000", "100", "101", "999", "1000", "0000000001", "256", "266",
            "65537", "4294967297", "4294967298", "18446744073709551617", "99999999999999999999999999999"}) {
            fault("way scale " + number + ";", 10);
            fault("stall " + number + " 0 0;", 6);
            fault("luck 2 6 " + number + ";", 9);
            fault("way thumb 5 in " + number + ";", 15);
            fault("stall 1 0 " + number + ";", 10);
        }
        items("stall 1 0 0;", 1);
        items("luck 0 10 0;", 1);
        fault("way scale -1;", 10);
        fault("way scale +1;", 10);
        fault("way scale 1.5;", 11);
        // with 9 ahead of it a 0 is a NUMBER's second figure
        items("way scale 90;", 1);
    }

    private static void tokensOutOfPlace() {
        Check.sentence(4, "FAULT: the place of the first byte of the first TOKEN that can't stand there");
        String[] tokens = {"luck", "stall", "way", "honest", "scale", "thumb", "in", "to", "round", "old", "young", "friend",
            "stranger", "1", ";"};
        String[] aheads = {"", "luck ", "luck 1 ", "luck 1 8 ", "luck 1 8 1 ", "stall ", "stall 1 ", "stall 1 1 ", "stall 1 1 1 ",
            "way ", "way honest ", "way scale ", "way scale 1 ", "way thumb ", "way thumb 1 ", "way thumb 1 in ",
            "way thumb 1 in 1 ", "way thumb 1 in 1 to ", "way thumb 1 in 1 to old ", "way round "};
        String[] may = {"luck stall way", "1", "1", "1", ";", "1", "1", "1", ";", "honest scale thumb round", ";", "1", ";", "1", "in",
            "1", "to ;", "old young friend stranger", "young friend stranger ;", ";"};
        for (int i = 0; i < aheads.length; i++) {
            for (String token : tokens) {
                String text = aheads[i] + token;
                if ((" " + may[i] + " ").contains(" " + token + " ")) {
                    if (token.equals(";")) {
                        items(text, 1);
                    } else {
                        fault(text, text.length());
                    }
                } else {
                    fault(text, aheads[i].length());
                    // what stands behind a FAULT doesn't matter
                    fault(text + " way honest; x", aheads[i].length());
                }
            }
        }
    }

    private static void firstOfTwoFaults() {
        Check.sentence(4, "the first TOKEN that can't stand there");
        fault("stall 21 10 100;", 6);
        fault("stall 1 10 100 ?", 8);
        fault("luck 2 6 3; luck ?", 9);
        fault("way thumb 100 in 9;", 10);
        fault("? stall 0", 0);
        fault("way honest; stall 0 0 0; way x;", 18);
        fault("way thumb 5 in 2 to old old 7", 24);
        fault("honest ?", 0);
    }

    /** Each beginning of a text: where a word is cut it is none of these, else the text ends too early. */
    private static void endsTooEarly() {
        Check.sentence(4, "the text's length, if it ends too early");
        String text = "luck 10 0 0 ;stall 20 9 99; way thumb 12 in 5 to old young friend stranger ;way honest;"
                + "way scale 99 ;way  round;way thumb 9 in 1;";
        int items = 0;
        int wordBegan = -1;
        boolean ended = true;
        for (int length = 0; length <= text.length(); length++) {
            String begun = text.substring(0, length);
            boolean inWord = wordBegan >= 0 && length < text.length() && isLetter(text.charAt(length));
            if (inWord) {
                fault(begun, wordBegan);
            } else if (ended) {
                items(begun, items);
            } else {
                fault(begun, length);
            }
            if (length < text.length()) {
                char c = text.charAt(length);
                wordBegan = !isLetter(c) ? -1 : wordBegan >= 0 ? wordBegan : length;
                items += c == ';' ? 1 : 0;
                ended = c == ';' || c == ' ' && ended;
            }
        }
        fault("stall 1 1 1   ", 14);
        fault("way" + " ".repeat(397), 400);
        fault(" way", 4);
    }

    private static boolean isLetter(char c) {
        return c >= 'a' && c <= 'z';
    }

    private static void longestTexts() {
        Check.sentence(4, "-10 less FAULT: nothing changes.");
        items(" ".repeat(389) + "way honest;", 1);
        items("way honest;" + " ".repeat(389), 1);
        fault(" ".repeat(390) + "way honest", 400);
        fault(" ".repeat(399) + ";", 399);
        fault(" ".repeat(399) + (char) 255, 399);
        fault("a".repeat(400), 0);
        fault("9".repeat(400), 0);
        fault(";".repeat(400), 0);
        fault("way scale " + "1".repeat(390), 10);
        fault("way " + "honest".repeat(66), 4);
        items("stall 20 9 99;".repeat(6) + "way thumb 99 in 5 to old young friend stranger;".repeat(6) + "luck 0 10 0;", 13);
    }

    private static void faultChangesNothing() {
        Check.sentence(4, "-10 less FAULT: nothing changes.");
        String[] texts = {";", "luck 10 0 1;", "luck 10 0 0;luck", "stall 0 0 0;", "stall 1 1 1;way", "stall 1 1 1", "way scale 1 1;",
            "way thumb 99 in 5 to old old;", "way round;".repeat(7), "stall 9 9 9;".repeat(7), "stall 20 9 99;way round;?"};
        int[] places = {0, 10, 12, 6, 15, 11, 12, 25, 60, 72, 24};
        for (int i = 0; i < texts.length; i++) {
            Check.refused(Scenes.busyWith(texts[i]), "market of \"" + texts[i] + "\"", -10 - places[i], ThumbScale::market);
            String text = texts[i];
            Stage fresh = new Stage(() -> Scenes.typed(text));
            Check.refused(fresh, "the first market of \"" + text + "\"", -10 - places[i], ThumbScale::market);
        }
        Check.refused(Scenes.BRIM, "market of a full text", -10 - 399, ThumbScale::market);
        ThumbScale x = Scenes.typed("way scale 5");
        Check.is("a FAULT", x.market(), -21);
        Check.is("the rest comes", x.type(';', 1), 12);
        Check.is("then it is right", x.market(), 1);
    }

    private static void marketAnew() {
        Check.sentence(4, "(A MARKET read anew: no BAGS, no TRIALS, no LOOKS, BELIEFS are 1, IMAGES are gone.)");
        for (Stage stage : new Stage[] {Scenes.BUSY, Scenes.BRIM}) {
            ThumbScale x = stage.make();
            x.clear();
            Scenes.type(x, Scenes.SIX);
            Check.is("read anew", x.market(), 12);
            Check.is("BAGS", x.count(2), 0);
            Check.is("TRIALS", x.count(3), 0);
            Check.is("about the first BAG", x.about(0, 0), Check.NO);
            Check.is("a LOOK at none", x.look(-1, 0, 11, 15, 0, 0), 0);
            for (int i = 0; i < 6; i++) {
                Check.is("BAGS of " + i, x.stall(i, 3), 0);
                Check.is("TRIALS of " + i, x.stall(i, 4), 0);
                Check.is("MIDDLE of " + i, x.middle(i), Check.NO);
                Check.is("BELIEF of " + i, x.belief(i, 0), 1);
            }
            for (int what = 0; what < 3; what++) {
                Check.is("no LOOK " + what, x.counted(what), -2);
            }
            Check.is("BAGS begin at 0", x.bag(5, 0, 0, 1, 1, 0), 0);
            Check.is("TRIALS begin at 1", x.trial(5, 0, 1, 1), 1);
            x.seldom(-1, 0, 11, 15, 1);
            Check.is("LOOKS begin at 1", x.counted(2), 1);
        }
        staysBehindMarket();
    }

    /** What the sentence doesn't name stays. */
    private static void staysBehindMarket() {
        ThumbScale x = Scenes.BUSY.make();
        ThumbScale plain = Scenes.BUSY.make();
        x.clear();
        Scenes.type(x, Scenes.TWO);
        Check.is("read anew", x.market(), 6);
        Check.is("THE TRACE stays", x.trace(), plain.trace());
        Check.is("steps stay", x.steps(), plain.steps());
        Check.is("THE LOT stays", x.lot(0), plain.lot(0));
        for (int k = 0; k < 8; k++) {
            Check.is("BAR " + k + " stays", x.bar(k, 1), plain.bar(k, 1));
        }
    }

    private static void imagesGone() {
        Check.sentence(36, "BAD; STATE: none was kept.");
        for (int image = 0; image < 2; image++) {
            int i = image;
            Stage anew = Scenes.busyWith(Scenes.TWO).with(ThumbScale::market);
            Check.refused(anew, "back " + i + " behind a MARKET", STATE, x -> x.back(i));
            Check.refused(Scenes.busyWith("").with(ThumbScale::market), "back " + i + " behind an empty one", STATE, x -> x.back(i));
            Check.is("kept anew", anew.with(x -> x.keep(i)).make().back(i), 0);
            Check.is("a FAULT leaves it", Scenes.busyWith("?").with(ThumbScale::market).make().back(i), i == 0 ? 1 : 4);
        }
    }

    private static void stallAsked() {
        Check.sentence(5, "Of a STALL: 0 STEP, 1 DRY, 2 PRICE, 3 BAGS, 4 TRIALS. BAD.");
        Stage[] stages = {Scenes.FRESH, Scenes.BUSY, Scenes.BRIM};
        int[] stalls = {0, 2, 6};
        for (int s = 0; s < 3; s++) {
            for (int i : new int[] {-1, stalls[s], stalls[s] + 1, LEAST, MOST}) {
                for (int what = 0; what < 5; what++) {
                    int w = what;
                    Check.refused(stages[s], "stall " + i + " " + what, BAD, x -> x.stall(i, w));
                }
            }
        }
        for (int what : new int[] {-1, 5, LEAST, MOST}) {
            Check.refused(Scenes.BUSY, "what " + what, BAD, x -> x.stall(1, what));
        }
        ThumbScale x = Scenes.BRIM.make();
        Check.is("STEP at most", x.stall(1, 0), 20);
        Check.is("DRY at most", x.stall(1, 1), 9);
        Check.is("PRICE at most", x.stall(1, 2), 99);
        Check.is("STEP at least", x.stall(0, 0), 1);
        Check.is("PRICE at least", x.stall(0, 2), 0);
        Check.is("BAGS of the last", x.stall(5, 3), 5);
        Check.is("TRIALS of the last", x.stall(5, 4), 3);
        Check.is("TRIALS of the first", x.stall(0, 4), 4);
    }

    private static void wayAsked() {
        Check.sentence(6, "Of a WAY: 0 which it is (0 honest, 1 scale, 2 thumb, 3 round), 1 N (0: none), 2 M, 3 SORTS as bits "
                + "(15: all). BAD.");
        Stage[] stages = {Scenes.FRESH, Scenes.BUSY, Scenes.BRIM};
        int[] ways = {0, 3, 6};
        for (int s = 0; s < 3; s++) {
            for (int w : new int[] {-1, ways[s], ways[s] + 1, LEAST, MOST}) {
                for (int what = 0; what < 4; what++) {
                    int k = what;
                    Check.refused(stages[s], "way " + w + " " + what, BAD, x -> x.way(w, k));
                }
            }
        }
        for (int what : new int[] {-1, 4, LEAST, MOST}) {
            Check.refused(Scenes.BUSY, "what " + what, BAD, x -> x.way(2, what));
        }
        int[][] due = {{0, 0, 1, 15}, {1, 1, 1, 15}, {1, 99, 1, 15}, {2, 50, 5, 15}, {2, 7, 1, 8}, {3, 0, 1, 15}};
        ThumbScale x = Scenes.BRIM.make();
        for (int w = 0; w < 6; w++) {
            for (int what = 0; what < 4; what++) {
                Check.is("way " + w + " " + what, x.way(w, what), due[w][what]);
            }
        }
    }
}
