/** Promises 10 to 12, sentence by sentence, where they name a least, a greatest, an empty or a full thing. */
public final class BoundsTextTest {
    private static final int MIN = Integer.MIN_VALUE;
    private static final int MAX = Integer.MAX_VALUE;
    private static final String JOINS = "|&<=>+-*/%";
    /** 24 times 1+ and 11: 35. */
    private static final String FIFTY = "1+1+1+1+1+1+1+1+1+1+1+1+1+1+1+1+1+1+1+1+1+1+1+1+11";

    public static void main(String[] args) {
        Due due = new Due("BoundsTextTest");
        lowestFirst(due);
        feedWrong(due);
        fiftyBytes(due);
        textOfUse(due);
        faultKeeps(due);
        everyByte(due);
        everyByteWithin(due);
        endsTooEarly(due);
        digits(due);
        fiveOpen(due);
        wholeTape(due);
        ints(due);
        truth(due);
        held(due);
        namesInOrder(due);
        askedAgain(due);
        lawWrong(due);
        due.end();
    }

    // ---- feed

    private static void lowestFirst(Due due) {
        due.says(10, "The n lowest bytes (1 .. 8) of a word, the lowest first, come to THE TAPE: how many there are");
        // 1+2+3+4a, the 1 in the lowest byte
        long word = 0x61342B332B322B31L;
        int[] told = {0, 1, -12, 1, -14, 1, -16, 1, -17};
        int[] sums = {0, 1, 0, 3, 0, 6, 0, 10, 0};
        for (int n = 1; n <= 8; n++) {
            PaperBubbles x = new PaperBubbles();
            due.is("feed(.., " + n + ")", x.feed(word, n), n);
            due.is("bytes", x.count(8), n);
            due.is("text of " + n + " bytes", x.text(1), told[n]);
            due.is("law", x.law(1, 0, 0, 0), sums[n]);
        }
        PaperBubbles x = new PaperBubbles();
        due.is("feed(.., 1)", x.feed('1', 1), 1);
        due.is("behind what is there", x.feed(0x322BL, 2), 3);
        due.is("behind what is there", x.feed(0x3332L, 1), 4);
        due.is("text of 1+22", x.text(0), 1);
        due.is("law", x.law(0, 0, 0, 0), 23);
        // bytes above 127 are bytes, too
        x.feed(0x8061L, 2);
        due.is("a, then byte 128", x.text(0), -11);
        x.feed(0xFF31L << 48 | 0x2B312B312B31L, 8);
        due.is("1+1+1+1, then byte 255", x.text(0), -17);
    }

    private static void feedWrong(Due due) {
        due.says(10, "n (1 .. 8). BEYOND. FULL");
        PaperBubbles x = new PaperBubbles();
        int[] wrong = {MIN, -1, 0, 9, 16, 64, MAX};
        for (int n : wrong) {
            due.is("feed(.., " + n + ")", x.feed(0x61L, n), Due.BEYOND);
            due.is("empty", x.count(8), 0);
        }
        for (int i = 0; i < 6; i++) {
            x.feed(0x2B612B612B612B61L, 8);
        }
        x.feed(0x6131L, 2);
        for (int n : wrong) {
            due.is("BEYOND ahead of FULL: feed(.., " + n + ")", x.feed(0x61L, n), Due.BEYOND);
        }
        for (int n = 1; n <= 8; n++) {
            due.is("FULL: feed(.., " + n + ")", x.feed(0x61L, n), Due.FULL);
        }
        due.is("bytes", x.count(8), 50);
        due.is("told(1)", x.told(1), 14);
        due.is("told(4)", x.told(4), 8);
        due.is("the last but one is 1, the last a", x.text(0), -59);
    }

    private static void fiftyBytes(Due due) {
        due.says(10, "THE TAPE (bytes, at most 50). FULL");
        for (int n = 1; n <= 8; n++) {
            PaperBubbles x = new PaperBubbles();
            for (int i = 0; i < 50 - n; i++) {
                due.is("byte by byte", x.feed(FIFTY.charAt(i), 1), i + 1);
            }
            due.is("one too many", x.feed(0x2929292929292929L, n + 1), n < 8 ? Due.FULL : Due.BEYOND);
            due.is("bytes stay", x.count(8), 50 - n);
            Due.feed(x, FIFTY.substring(50 - n));
            due.is("just as many as there is room for", x.count(8), 50);
            due.is("one more", x.feed('+', 1), Due.FULL);
            due.is("bytes stay", x.count(8), 50);
            due.is("the TEXT", x.text(0), 1);
            due.is("all 50 bytes count", x.law(0, 0, 0, 0), 35);
            due.is("room again", x.feed(0x2929292929292929L, 8), 8);
        }
    }

    // ---- text

    private static void textOfUse(Due due) {
        due.says(11, "THE TAPE, which is empty then, is the TEXT of a USE (0, 1). BEYOND (THE TAPE stays)");
        PaperBubbles x = new PaperBubbles();
        Due.feed(x, "a+7");
        int[] wrong = {MIN, -1, 2, 3, MAX};
        for (int use : wrong) {
            due.is("text(" + use + ")", x.text(use), Due.BEYOND);
            due.is("THE TAPE stays", x.count(8), 3);
        }
        due.is("told(1)", x.told(1), wrong.length);
        due.is("text(0)", x.text(0), 1);
        due.is("empty then", x.count(8), 0);
        due.is("MOVED", x.law(0, 5, 0, 0), 12);
        due.is("SEEN has none", x.law(1, 5, 0, 0), 5);
        Due.feed(x, "a+8");
        due.is("text(1)", x.text(1), 1);
        due.is("empty then", x.count(8), 0);
        due.is("SEEN", x.law(1, 5, 0, 0), 13);
        due.is("MOVED stays", x.law(0, 5, 0, 0), 12);
        due.says(11, "in place of one ahead: 1");
        due.is("a shorter one", Due.text(x, 0, "9"), 1);
        due.is("MOVED", x.law(0, 5, 0, 0), 9);
        due.is("a longer one", Due.text(x, 0, "a+a+a+1"), 1);
        due.is("MOVED", x.law(0, 5, 0, 0), 16);
        due.is("SEEN stays", x.law(1, 5, 0, 0), 13);
        // with a faulty TAPE BEYOND comes first, and THE TAPE stays
        Due.feed(x, "++");
        due.is("text(2) of a faulty TAPE", x.text(2), Due.BEYOND);
        due.is("THE TAPE stays", x.count(8), 2);
        due.is("text(1) of it", x.text(1), -10);
        due.is("text(2) of an empty TAPE", x.text(2), Due.BEYOND);
    }

    private static void faultKeeps(Due due) {
        due.says(11, "-10 less the FAULT (no ERROR; the one ahead stays; THE TAPE is empty, too)");
        String[] bad = {"", "+", "7+", "7+(", "77777", "(((((7", "7a", "!", "7<7<7", "7)"};
        int[] told = {-10, -10, -12, -13, -14, -16, -11, -11, -13, -11};
        for (int use = 0; use < 2; use++) {
            PaperBubbles x = new PaperBubbles();
            for (int i = 0; i < bad.length; i++) {
                due.is("text of " + bad[i], Due.text(x, use, bad[i]), told[i]);
                due.is("THE TAPE is empty", x.count(8), 0);
                due.is("none ahead, none then", x.law(use, 40, 0, 0), use == 0 ? 20 : 40);
            }
            due.is("a TEXT", Due.text(x, use, "a+3"), 1);
            for (int i = 0; i < bad.length; i++) {
                due.is("text of " + bad[i], Due.text(x, use, bad[i]), told[i]);
                due.is("THE TAPE is empty", x.count(8), 0);
                due.is("the one ahead stays", x.law(use, 40, 0, 0), 43);
                due.is("empty: ends too early at 0", x.text(use), -10);
                due.is("the other USE has none", x.law(1 - use, 40, 0, 0), use == 0 ? 40 : 20);
            }
            due.is("no ERROR", x.told(1) + x.told(2) + x.told(3) + x.told(4) + x.told(5), 0);
        }
    }

    private static int textOf(int use, String text) {
        return Due.text(new PaperBubbles(), use, text);
    }

    /** FAULT, or 1 where a TEXT is whole: a byte behind a beginning that is whole or not. */
    private static void everyByte(Due due) {
        due.says(11, "Q: a NUMBER, a NAME, ! Q, ( T ). No blanks. FAULT: the first byte with which no TEXT goes on");
        String[] names = {"apm", "arc"};
        String[] heads = {"", "!", "(", "a+", "a|", "a&", "a<", "a*", "((((", "!!!!", "(a+", "12%"};
        for (int use = 0; use < 2; use++) {
            for (String head : heads) {
                boolean closed = head.indexOf('(') < 0;
                for (int b = 0; b < 256; b++) {
                    int at = head.length();
                    boolean operand = b >= '0' && b <= '9' || names[use].indexOf(b) >= 0;
                    int want = operand ? closed ? 1 : -11 - at : b == '!' || b == '(' ? -11 - at : -10 - at;
                    due.is("USE " + use + ", " + head + " and byte " + b, textOf(use, head + (char) b), want);
                }
            }
        }
    }

    private static void everyByteWithin(Due due) {
        due.says(11, "T: A { | A } .. P: Q { * Q, / Q, % Q }. FAULT: the first byte with which no TEXT goes on");
        // beginnings, and which bytes go on: joins (j), joins but comparisons (s), digits (d), a closing one ())
        String[][] heads = {{"a", "j"}, {"1", "jd"}, {"123", "jd"}, {"1234", "j"}, {"!a", "j"}, {"!12", "jd"},
            {"(a)", "j"}, {"(a", "j)"}, {"(1", "jd)"}, {"a<m", "s"}, {"a=1", "sd"}, {"a>1+a*2", "sd"}, {"a<a&a", "j"},
            {"a<a|a", "j"}, {"(a<a)", "j"}, {"(a<a", "s)"}, {"(a<a)<a", "s"}, {"a<(a", "j)"}, {"a<(a)", "s"},
            {"a<!a", "s"}, {"a+a", "j"}, {"!(a)", "j"}, {"((a)", "j)"}, {"a<(a<a)", "s"}, {"a=a&a>a", "s"}};
        for (String[] head : heads) {
            String text = head[0];
            int at = text.length();
            boolean open = head[1].indexOf(')') >= 0;
            for (int b = 0; b < 256; b++) {
                boolean digit = b >= '0' && b <= '9' && head[1].indexOf('d') >= 0;
                boolean joins = JOINS.indexOf(b) >= 0 && (head[1].charAt(0) == 'j' || "<=>".indexOf(b) < 0);
                boolean closes = b == ')' && open;
                // a digit that goes on leaves the TEXT whole, if nothing is open
                int want = digit ? open ? -11 - at : 1 : joins ? -11 - at : closes ? 1 : -10 - at;
                due.is(text + " and byte " + b, textOf(0, text + (char) b), want);
            }
        }
    }

    private static void endsTooEarly(Due due) {
        due.says(11, "FAULT: how many there are, if it ends too early");
        // 1: what has come so far is a TEXT
        String[][] rows = {{"!(a+12)*(p<3|m)", "000000100000001"}, {"((a)+(!p))%m", "000000000101"},
            {"a|p&m<1=2", "101010101"}, {"!!!!!1/9999", "00000101111"}, {"(((((0)))))", "00000000001"}};
        for (String[] row : rows) {
            for (int n = 0; n <= row[0].length(); n++) {
                boolean whole = n > 0 && row[1].charAt(n - 1) == '1';
                // the second comparison goes on with no TEXT
                int want = whole ? 1 : -10 - n;
                if (row[0].equals("a|p&m<1=2") && n >= 8) {
                    want = -17;
                }
                due.is("text of " + row[0].substring(0, n), textOf(0, row[0].substring(0, n)), want);
            }
        }
        for (int n = 0; n <= 50; n++) {
            StringBuilder b = new StringBuilder();
            for (int i = 0; i < n; i++) {
                b.append(i % 2 == 0 ? 'r' : '-');
            }
            due.is("r-r-.. of " + n + " bytes", textOf(1, b.toString()), n % 2 == 1 ? 1 : -10 - n);
        }
    }

    private static void digits(Due due) {
        due.says(11, "a NUMBER of 1 to 4 digits");
        String[] numbers = {"0", "7", "00", "42", "000", "099", "0000", "0001", "0098", "9999"};
        int[] are = {0, 7, 0, 42, 0, 99, 0, 1, 98, 99};
        for (int i = 0; i < numbers.length; i++) {
            PaperBubbles x = new PaperBubbles();
            due.is("text of " + numbers[i], Due.text(x, 0, numbers[i]), 1);
            due.is("law of " + numbers[i], x.law(0, 5, 5, 5), are[i]);
        }
        due.is("five digits", textOf(0, "00000"), -14);
        due.is("five digits", textOf(0, "12345"), -14);
        due.is("six digits", textOf(0, "123456"), -14);
        due.is("five digits behind a sign", textOf(0, "1234+12345"), -19);
        due.is("four digits behind a sign", textOf(0, "1234+1234"), 1);
        due.is("five digits behind !", textOf(0, "!12345"), -15);
        due.is("five digits behind (", textOf(0, "(12345)"), -15);
        due.is("four digits within ( )", textOf(0, "(1234)"), 1);
        due.is("a digit behind )", textOf(0, "(1)2"), -13);
        due.is("a digit behind a NAME", textOf(0, "a2"), -11);
        due.is("a NAME behind a digit", textOf(0, "2a"), -11);
        PaperBubbles x = new PaperBubbles();
        Due.text(x, 0, "9999-9998+0010");
        due.is("four digits count", x.law(0, 0, 0, 0), 11);
    }

    private static void fiveOpen(Due due) {
        due.says(11, "At most 5 of ! and ( are open at once");
        for (int mask = 0; mask < 32; mask++) {
            StringBuilder head = new StringBuilder();
            StringBuilder tail = new StringBuilder("a");
            for (int i = 0; i < 5; i++) {
                head.append((mask >> i & 1) == 0 ? '!' : '(');
                tail.append((mask >> i & 1) == 0 ? "" : ")");
            }
            String whole = head.toString() + tail;
            due.is("five: " + whole, textOf(0, whole), 1);
            due.is("a sixth !", textOf(0, head + "!a"), -15);
            due.is("a sixth (", textOf(0, head + "(a"), -15);
            due.is("five, five again", textOf(0, whole + "*" + whole), 1);
            due.is("five, then a sixth !", textOf(0, whole + "*" + head + "!"), -16 - whole.length());
            due.is("five, then a sixth (", textOf(0, whole + "*" + head + "("), -16 - whole.length());
        }
        due.is("one closed, one more", textOf(0, "(((((a)+(a)))))"), 1);
        due.is("one closed, one more !", textOf(0, "(((((a)+!a))))"), 1);
        due.is("one closed, two more", textOf(0, "(((((a)+((a"), -19);
        due.is("one closed, two more !", textOf(0, "(((((a)+!!a"), -19);
        due.is("! is closed behind its Q", textOf(0, "((((!a+!a*!1))))"), 1);
        due.is("! is closed, two more", textOf(0, "((((!a+!!a"), -18);
        due.is("!( is closed with )", textOf(0, "(((!(a)+!(a))))"), 1);
        due.is("!( is closed, three more", textOf(0, "(((!(a)+!!(a"), -20);
        due.is("! of a ( that stays open", textOf(0, "!(((!a+!a+!!a"), -21);
        due.is("none is open behind many", textOf(0, "!a+!a+!a+!a+!a+!a+!a+!a"), 1);
        due.is("none is open behind many", textOf(0, "(a)+(a)+(a)+(a)+(a)+(a)+(a)"), 1);
        due.is("within, five are too many", textOf(0, "(!!!!!a)"), -15);
        due.is("within, four are not", textOf(0, "(!!!!a)"), 1);
    }

    private static void wholeTape(Due due) {
        due.says(11, "THE TAPE (bytes, at most 50)");
        PaperBubbles x = new PaperBubbles();
        due.is("a TEXT of 50 bytes", Due.text(x, 0, FIFTY), 1);
        due.is("all of it counts", x.law(0, 0, 0, 0), 35);
        due.is("FAULT 49", textOf(0, FIFTY.substring(0, 49) + "a"), -59);
        due.is("FAULT 49", textOf(0, FIFTY.substring(0, 49) + ")"), -59);
        due.is("ends too early at 50", textOf(0, FIFTY.substring(0, 49) + "*"), -60);
        String nots = "!1*!1*!1*!1*!1*!1*!1*!1*!1*!1*!1*!1*!1*!1*!1*!1+77";
        x = new PaperBubbles();
        due.is("50 bytes of ! and *", Due.text(x, 0, nots), 1);
        due.is("all of it counts", x.law(0, 0, 0, 0), 77);
        // the most that waits: each sign is of a rank above the one ahead
        String ranks = "1|1&1<1+1*(1|1&1<1+1*(1|1&1<1+1*(1|1&1<1+1*(1))))";
        due.is("ranks in ranks", textOf(0, ranks), 1);
        due.is("ranks in ranks, and (", textOf(0, ranks.substring(0, 45) + "1))))"), 1);
    }

    // ---- law

    private static void worked(Due due, String text, int want) {
        PaperBubbles x = new PaperBubbles();
        due.is("text of " + text, Due.text(x, 0, text), 1);
        due.is("law of " + text, x.law(0, 0, 0, 0), want);
    }

    private static void ints(Due due) {
        due.says(12, "Ints that wrap; / cut, % the rest that it leaves, both by 0 are 0");
        worked(due, "9999*9999*21>0", 1);
        worked(due, "9999*9999*22<0", 1);
        worked(due, "9999*9999*21+9999*9999*21<0", 1);
        worked(due, "0-9999*9999*21-9999*9999*21>0", 1);
        worked(due, "1024*1024*2047+1048*1000+575+1<0", 1);
        worked(due, "1024*1024*2047+1048*1000+575>0", 1);
        worked(due, "1024*1024*4096+5", 5);
        worked(due, "2048*1024*1024=0-2048*1024*1024", 1);
        worked(due, "2048*1024*1024-1>0", 1);
        worked(due, "2048*1024*1024/(0-1)<0", 1);
        worked(due, "2048*1024*1024%(0-1)+5", 5);
        worked(due, "7/2", 3);
        worked(due, "8/2", 4);
        worked(due, "1/2+5", 5);
        worked(due, "(0-7)/2+10", 7);
        worked(due, "(0-1)/2+10", 10);
        worked(due, "7/(0-2)+10", 7);
        worked(due, "(0-7)/(0-2)", 3);
        worked(due, "7%4", 3);
        worked(due, "8%4+5", 5);
        worked(due, "(0-7)%4+10", 7);
        worked(due, "7%(0-4)+10", 13);
        worked(due, "(0-7)%(0-4)+10", 7);
        worked(due, "7/0+5", 5);
        worked(due, "7%0+5", 5);
        worked(due, "0/0+5", 5);
        worked(due, "0%0+5", 5);
        worked(due, "(0-7)/0+5", 5);
        worked(due, "(0-7)%0+5", 5);
        worked(due, "7/(1-1)*9+5", 5);
        worked(due, "2*3+4*5", 26);
        worked(due, "60/2*3%7", 6);
        worked(due, "9-3+2", 8);
    }

    private static void truth(Due due) {
        due.says(12, "| & < = > ! are 1 or 0, what is not 0 being true; all is worked out");
        String[] values = {"(0-1)", "0", "1", "2"};
        int[] are = {-1, 0, 1, 2};
        for (int l = 0; l < 4; l++) {
            worked(due, "!" + values[l] + "*7+5", are[l] == 0 ? 12 : 5);
            worked(due, "!!" + values[l] + "*7+5", are[l] == 0 ? 5 : 12);
            for (int r = 0; r < 4; r++) {
                boolean[] so = {are[l] != 0 || are[r] != 0, are[l] != 0 && are[r] != 0, are[l] < are[r],
                    are[l] == are[r], are[l] > are[r]};
                for (int sign = 0; sign < 5; sign++) {
                    worked(due, "(" + values[l] + "|&<=>".charAt(sign) + values[r] + ")*7+5", so[sign] ? 12 : 5);
                }
            }
        }
        // comparisons of numbers whose difference wraps
        worked(due, "(2048*1024*1024<1)*7+5", 12);
        worked(due, "(2048*1024*1024>1)*7+5", 5);
        worked(due, "(0|0|4)+5", 6);
        worked(due, "(4&4&0)+5", 5);
        worked(due, "(1|0&0)+5", 6);
        worked(due, "(0&0|1)+5", 6);
    }

    private static void held(Due due) {
        due.says(12, "held within 0 to 99; without a TEXT a/2, a");
        PaperBubbles[] x = {new PaperBubbles(), new PaperBubbles()};
        for (int a = 0; a <= 99; a++) {
            due.is("MOVED without a TEXT, a " + a, x[0].law(0, a, 0, 0), a / 2);
            due.is("SEEN without a TEXT, a " + a, x[1].law(1, a, 0, 0), a);
        }
        String[] texts = {"0-9999", "0-2", "0-1", "0", "1", "98", "99", "100", "101", "9999", "9999*9999*22"};
        int[] are = {0, 0, 0, 0, 1, 98, 99, 99, 99, 99, 0};
        for (int use = 0; use < 2; use++) {
            for (int i = 0; i < texts.length; i++) {
                due.is("text of " + texts[i], Due.text(x[use], use, texts[i]), 1);
                due.is("held: " + texts[i], x[use].law(use, 3, 3, 3), are[i]);
            }
        }
    }

    private static void namesInOrder(Due due) {
        due.says(12, "What a USE gives with its NAMES in order as a, b, c");
        PaperBubbles x = new PaperBubbles();
        Due.text(x, 0, "a*25+p*5+m");
        Due.text(x, 1, "a*25+r*5+c");
        int[][] orders = {{1, 2, 3}, {1, 3, 2}, {2, 1, 3}, {2, 3, 1}, {3, 1, 2}, {3, 2, 1}, {0, 0, 4}, {0, 4, 0},
            {3, 0, 0}, {0, 0, 0}};
        for (int[] o : orders) {
            int want = Math.min(99, 25 * o[0] + 5 * o[1] + o[2]);
            due.is("MOVED", x.law(0, o[0], o[1], o[2]), want);
            due.is("SEEN", x.law(1, o[0], o[1], o[2]), want);
        }
    }

    private static void askedAgain(Due due) {
        due.says(12, "What a USE gives with its NAMES, whatever was asked ahead");
        PaperBubbles x = new PaperBubbles();
        // numbers about the bounds of AIR, PASTE, m, row and column, asked one behind the other
        int[] as = {0, 1, 2, 98, 99, 100, -1};
        int[] bs = {0, 1, 4, 5, 9, 10, 11, -1};
        Due.text(x, 0, "(a+2)*16+(p+2)*5+(m+2)*3-(a>9)*(a*16-16)");
        for (int round = 0; round < 2; round++) {
            for (int a : as) {
                for (int b : bs) {
                    for (int c = round == 0 ? -1 : 8; c <= (round == 0 ? 1 : 10); c++) {
                        int sum = (a + 2) * 16 + (b + 2) * 5 + (c + 2) * 3 - (a > 9 ? a * 16 - 16 : 0);
                        due.is("law(0, " + a + ", " + b + ", " + c + ")", x.law(0, a, b, c), Math.min(99, sum));
                    }
                }
            }
        }
        PaperBubbles y = new PaperBubbles();
        Due.text(y, 1, "(a+2)*16+(r+2)*5+(c+2)*3-(a>9)*(a*16-16)");
        for (int a : as) {
            for (int b : bs) {
                for (int c = 3; c <= 6; c++) {
                    int sum = (a + 2) * 16 + (b + 2) * 5 + (c + 2) * 3 - (a > 9 ? a * 16 - 16 : 0);
                    due.is("law(1, " + a + ", " + b + ", " + c + ")", y.law(1, a, b, c), Math.min(99, sum));
                }
            }
        }
        due.is("before an IMAGE", y.law(1, 0, 0, 0), 48);
        y.image();
        Due.text(y, 1, "a+3");
        due.is("by another TEXT", y.law(1, 0, 0, 0), 3);
        y.restore();
        due.is("by the IMAGE's TEXT", y.law(1, 0, 0, 0), 48);
    }

    private static void lawWrong(Due due) {
        due.says(12, "BEYOND: no such USE");
        PaperBubbles x = new PaperBubbles();
        int[] wrong = {MIN, -1, 2, 3, MAX};
        for (int use : wrong) {
            due.is("law(" + use + ", ..)", x.law(use, 1, 1, 1), Due.BEYOND);
        }
        due.is("law(0, ..)", x.law(0, 8, 0, 0), 4);
        due.is("law(1, ..)", x.law(1, 8, 0, 0), 8);
        due.is("told(1)", x.told(1), wrong.length);
    }
}
