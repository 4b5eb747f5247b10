/** Promises 10 to 12: feed, text, law. */
public final class TextTest {
    public static void main(String[] args) {
        Due due = new Due("TextTest");
        feed(due);
        text(due);
        faults(due);
        law(due);
        worked(due);
        due.end();
    }

    private static void feed(Due due) {
        PaperBubbles x = new PaperBubbles();
        due.is("feed(.., 0)", x.feed('a', 0), Due.BEYOND);
        due.is("feed(.., 9)", x.feed('a', 9), Due.BEYOND);
        due.is("feed(.., -1)", x.feed('a', -1), Due.BEYOND);
        due.is("empty", x.count(8), 0);
        due.is("feed(.., 1)", x.feed(0x6261L, 1), 1);
        due.is("text, one byte alone came", x.text(0), 1);
        due.is("law", x.law(0, 7, 0, 0), 7);
        // the lowest first: 7-a
        due.is("feed(.., 3)", x.feed(0x612D37L, 3), 3);
        due.is("text", x.text(0), 1);
        due.is("law", x.law(0, 3, 0, 0), 4);
        for (int i = 1; i <= 6; i++) {
            due.is("feed(.., 8)", x.feed(-1L, 8), 8 * i);
        }
        due.is("feed(.., 3)", x.feed(0, 3), Due.FULL);
        due.is("feed(.., 9)", x.feed(0, 9), Due.BEYOND);
        due.is("feed(.., 2)", x.feed(0, 2), 50);
        due.is("feed(.., 1)", x.feed(0, 1), Due.FULL);
        due.is("full", x.count(8), 50);
        due.is("told(1)", x.told(1), 4);
        due.is("told(4)", x.told(4), 2);
        due.is("fault at 0", x.text(1), -10);
        // all eight bytes of a word, the highest too
        due.is("feed 1+1+1+1a", x.feed(0x612B312B312B312BL, 8), 8);
        x.text(0);
        due.is("feed 1-1-1-1a, less the first", x.feed(0x612D312D312D3131L, 8), 8);
        due.is("text", x.text(0), 1);
        due.is("law", x.law(0, 2, 0, 0), 7);
    }

    private static void text(Due due) {
        PaperBubbles x = new PaperBubbles();
        Due.feed(x, "5");
        due.is("text(2)", x.text(2), Due.BEYOND);
        due.is("text(-1)", x.text(-1), Due.BEYOND);
        due.is("the tape stays", x.count(8), 1);
        due.is("text(1)", x.text(1), 1);
        due.is("the tape is empty", x.count(8), 0);
        due.is("law 1", x.law(1, 9, 9, 9), 5);
        due.is("law 0 as it was", x.law(0, 9, 9, 9), 4);
        due.is("in place of it", Due.text(x, 1, "6"), 1);
        due.is("law 1", x.law(1, 9, 9, 9), 6);
        due.is("a fault", Due.text(x, 1, "77a"), -12);
        due.is("the one ahead stays", x.law(1, 9, 9, 9), 6);
        due.is("the tape is empty", x.count(8), 0);
        due.is("an empty tape ends too early", x.text(1), -10);
        due.is("the one ahead stays", x.law(1, 9, 9, 9), 6);
        due.is("a fault is no ERROR", x.told(1), 2);
        due.is("no ERROR", x.told(2) + x.told(3) + x.told(4) + x.told(5), 0);
    }

    private static void fault(Due due, int use, String text, int place) {
        due.is("fault of " + text, Due.text(new PaperBubbles(), use, text), place < 0 ? 1 : -10 - place);
    }

    private static void faults(Due due) {
        String[] good = {"a", "p", "m", "0", "1234", "0009", "a+p-m*1/2%3", "!a", "!!!!!a", "(((((a)))))",
            "!(!(!a))", "a<p", "a=p", "a>p", "a<p&a>m|1=1", "(a<p)<m", "a<(p<m)", "a|p|m&a&p", "!a<p", "!1+!1",
            "!!!!!1+!!!!!1", "((((1))))+(((((2)))))", "(!!(!1))", "a+p<a-p", "(a)", "12+34", "((a+1)*(2))"};
        for (String text : good) {
            fault(due, 0, text, -1);
        }
        fault(due, 1, "a+r*c", -1);
        Object[][] bad = {
            {"+", 0}, {"a+", 2}, {"a++", 2}, {"a a", 1}, {" a", 0}, {"aa", 1}, {"a1", 1}, {"1a", 1}, {"12345", 4},
            {"a+12345", 6}, {"(a", 2}, {"(", 1}, {"()", 1}, {"a)", 1}, {")", 0}, {"(a))", 3}, {"!", 1}, {"a!", 1},
            {"a(", 1}, {"(a)(a)", 3}, {"(a)1", 3}, {"(a)a", 3}, {"a<p<m", 3}, {"a<p=m", 3}, {"a+1>p*2>m", 7},
            {"a<p&a<p<a", 7}, {"(a<p<m)", 4}, {"!!!!!!a", 5}, {"((((((a", 5}, {"!(!(!(a", 5}, {"(((((!a", 5},
            {"!!!!!(a", 5}, {"r", 0}, {"a+c", 2}, {"a&", 2}, {"a|", 2}, {"a&|", 2}, {"x", 0}, {"A", 0}, {"a\u00E1", 1},
            {"\u0000", 0}, {"a<", 2}, {"a<<p", 2}, {"a=<", 2}, {"-1", 0}, {"(((((a))))", 10}, {"(1234)5", 6},
            {"1234 ", 4}, {"a~", 1}, {"a,", 1}, {"a.p", 1}, {"a:", 1}, {"a;", 1}, {"/", 0}, {"a@", 1}, {"!)", 1},
            {"!a!", 2}, {"!1234+!12345", 11}};
        for (Object[] row : bad) {
            fault(due, 0, (String) row[0], (Integer) row[1]);
        }
        fault(due, 1, "p", 0);
        fault(due, 1, "a+m", 2);
        // fifty bytes: whole, and ending too early
        String fifty = "a+a+a+a+a+a+a+a+a+a+a+a+a+a+a+a+a+a+a+a+a+a+a+a+aa";
        fault(due, 0, fifty, 49);
        fault(due, 0, fifty.substring(0, 48) + "11", -1);
        fault(due, 0, fifty.substring(0, 49) + "+", 50);
        fault(due, 0, fifty.substring(0, 48) + "((", 50);
    }

    private static void law(Due due) {
        PaperBubbles x = new PaperBubbles();
        due.is("law(2, ..)", x.law(2, 0, 0, 0), Due.BEYOND);
        due.is("law(-1, ..)", x.law(-1, 0, 0, 0), Due.BEYOND);
        due.is("told(1)", x.told(1), 2);
        due.is("without a text a/2", x.law(0, 99, 1, 1), 49);
        due.is("without a text a", x.law(1, 99, 1, 1), 99);
        due.is("without a text, held", x.law(0, 200, 0, 0), 99);
        due.is("without a text, held", x.law(1, -1, 0, 0), 0);
        Due.text(x, 0, "a*100+p*10+m");
        due.is("names in order", x.law(0, 0, 4, 3), 43);
        due.is("names in order", x.law(0, 1, -4, -3), 57);
        due.is("held to 99", x.law(0, 1, 0, 0), 99);
        due.is("held to 0", x.law(0, -1, 0, 0), 0);
        Due.text(x, 1, "a-r-r-c*10");
        due.is("names in order", x.law(1, 90, 2, 4), 46);
        due.is("any number", x.law(1, 2147483647, 1000000000, 14748359), 57);
    }

    private static void worked(Due due, String text, int a, int p, int m, int want) {
        PaperBubbles x = new PaperBubbles();
        due.is("text " + text, Due.text(x, 0, text), 1);
        due.is(text, x.law(0, a, p, m), want);
    }

    private static void worked(Due due) {
        worked(due, "10-4-3", 0, 0, 0, 3);
        worked(due, "10-(4-3)", 0, 0, 0, 9);
        worked(due, "80/4/2", 0, 0, 0, 10);
        worked(due, "80/(4/2)", 0, 0, 0, 40);
        worked(due, "2+3*4", 0, 0, 0, 14);
        worked(due, "(2+3)*4", 0, 0, 0, 20);
        worked(due, "20%7*2", 0, 0, 0, 12);
        worked(due, "a/2", 7, 0, 0, 3);
        worked(due, "a/2+10", -7, 0, 0, 7);
        worked(due, "a%4+10", -7, 0, 0, 7);
        worked(due, "a/p+5", 7, 0, 0, 5);
        worked(due, "a%p+5", 7, 0, 0, 5);
        worked(due, "a/p=a", Integer.MIN_VALUE, -1, 0, 1);
        worked(due, "a%p+3", Integer.MIN_VALUE, -1, 0, 3);
        worked(due, "a+p<0", Integer.MAX_VALUE, 1, 0, 1);
        worked(due, "a-p>0", Integer.MIN_VALUE, 1, 0, 1);
        worked(due, "a*p", 65536, 65537, 0, 99);
        worked(due, "a*p", 65536, 65536, 0, 0);
        worked(due, "9999*9999*9999+50", 0, 0, 0, 0);
        worked(due, "a<p", 1, 2, 0, 1);
        worked(due, "a<p", 2, 2, 0, 0);
        worked(due, "a=p", 2, 2, 0, 1);
        worked(due, "a=p", 2, 3, 0, 0);
        worked(due, "a>p", 3, 2, 0, 1);
        worked(due, "a>p", 2, 2, 0, 0);
        worked(due, "a&p", 2, 4, 0, 1);
        worked(due, "a&p", 2, 0, 0, 0);
        worked(due, "a&p", 0, 4, 0, 0);
        worked(due, "a|p", 0, 0, 0, 0);
        worked(due, "a|p", 0, -3, 0, 1);
        worked(due, "a|p", 7, 0, 0, 1);
        worked(due, "!a", 0, 0, 0, 1);
        worked(due, "!a", 9, 0, 0, 0);
        worked(due, "!!a", 9, 0, 0, 1);
        worked(due, "!a+5", 9, 0, 0, 5);
        worked(due, "!(a+5)", 9, 0, 0, 0);
        worked(due, "!12", 0, 0, 0, 0);
        worked(due, "!a*7", 0, 0, 0, 7);
        worked(due, "5-!a", 0, 0, 0, 4);
        worked(due, "a|p&m", 1, 0, 0, 1);
        worked(due, "(a|p)&m", 1, 0, 0, 0);
        worked(due, "a&p|m", 0, 0, 1, 1);
        worked(due, "a<p&p<m", 1, 2, 3, 1);
        worked(due, "a+1<p+1", 1, 2, 0, 1);
        worked(due, "a=p|a", 3, 4, 0, 1);
        worked(due, "a=(p|a)", 3, 4, 0, 0);
        worked(due, "a*(p-(m+(1-(2))))", 3, 9, 4, 18);
        worked(due, "0042", 0, 0, 0, 42);
        worked(due, "9999-9900", 0, 0, 0, 99);
        worked(due, "9999-9901", 0, 0, 0, 98);
        worked(due, "(1|0&(2<3+(4*5|(6&7<8+(9*a", 0, 0, 0);
        worked(due, "1-(2-(3-(4-(5-6))))", 0, 0, 0, 0);
        worked(due, "60-(2-(3-(4-(5-6))))", 0, 0, 0, 56);
    }

    /** A text that lacks what its parentheses need. */
    private static void worked(Due due, String open, int a, int p, int m) {
        int many = 0;
        for (int i = 0; i < open.length(); i++) {
            many += open.charAt(i) == '(' ? 1 : 0;
        }
        PaperBubbles x = new PaperBubbles();
        due.is("text " + open, Due.text(x, 0, open), -10 - open.length());
        due.is("with )", Due.text(x, 0, open + ")))))".substring(0, many)), 1);
        due.is("law", x.law(0, a, p, m), 1);
    }
}
