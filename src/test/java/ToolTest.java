/** Promises 6 to 9: tool, ofTool, become, as. */
public final class ToolTest {
    public static void main(String[] args) {
        Due due = new Due("ToolTest");
        tool(due);
        ofTool(due);
        become(due);
        as(due);
        due.end();
    }

    private static void tool(Due due) {
        PaperBubbles x = new PaperBubbles();
        due.is("tool(-1)", x.tool(-1), Due.BEYOND);
        due.is("tool(70)", x.tool(70), Due.BEYOND);
        due.is("tool(MIN)", x.tool(Integer.MIN_VALUE), Due.BEYOND);
        due.is("none came", x.count(1), 0);
        due.is("tool(0)", x.tool(0), 0);
        due.is("tool(69)", x.tool(69), 1);
        for (int i = 2; i < 6; i++) {
            due.is("tool(10)", x.tool(10), i);
        }
        due.is("a seventh", x.tool(10), Due.FULL);
        due.is("a seventh that is none", x.tool(70), Due.BEYOND);
        due.is("TOOLS", x.count(1), 6);
        due.is("told(4)", x.told(4), 1);
        due.is("told(1)", x.told(1), 4);
    }

    /** KIND, m, REACH, MOVES and LETS of AIR 20, TEARS with PASTE 0 and 9. */
    private static int[] told(PaperBubbles x, int tool) {
        int[] told = new int[7];
        for (int what = 0; what < 7; what++) {
            told[what] = x.ofTool(tool, what);
        }
        return told;
    }

    private static void ofTool(Due due) {
        PaperBubbles x = new PaperBubbles();
        x.tool(4);
        due.rows("TOOL", told(x, 0), 0, 4, 1, 10, 0, 0, 0);
        x.become(0, 14);
        due.rows("BRUSH", told(x, 0), 1, 4, 1, 11, 0, 0, 0);
        x.become(0, 24);
        due.rows("NEEDLE", told(x, 0), 2, 4, 1, 0, 5, 1, 0);
        x.become(0, 34);
        due.rows("ROLLER", told(x, 0), 3, 4, 2, 20, 0, 0, 0);
        x.become(0, 44);
        due.rows("SOFT", told(x, 0), 4, 4, 1, 5, 0, 0, 0);
        x.become(0, 54);
        due.rows("KNIFE", told(x, 0), 5, 4, 1, 0, 20, 2, 1);
        x.become(0, 64);
        due.rows("HARD", told(x, 0), 6, 4, 3, 16, 0, 0, 1);
        x.become(0, 60);
        due.rows("HARD, m 0", told(x, 0), 6, 0, 2, 20, 0, 0, 1);
        x.become(0, 69);
        due.rows("HARD, m 9", told(x, 0), 6, 9, 2, 11, 0, 0, 1);
        x.become(0, 65);
        due.is("HARD reaches", x.ofTool(0, 2), 4);
        x.become(0, 29);
        due.is("NEEDLE lets", x.ofTool(0, 4), 10);
        Due.text(x, 0, "a*a+p+m");
        x.become(0, 2);
        due.is("no more than a", x.ofTool(0, 3), 20);
        x.become(0, 42);
        due.is("half of 99 and 1, no more than a", x.ofTool(0, 3), 20);
        Due.text(x, 0, "p+m");
        due.is("(7 and 1) / 2", x.ofTool(0, 3), 4);
        x.become(0, 12);
        due.is("7 and 1", x.ofTool(0, 3), 8);
        x.become(0, 2);
        due.is("7", x.ofTool(0, 3), 7);
        Due.text(x, 0, "20");
        x.become(0, 12);
        due.is("20 and 1, no more than a", x.ofTool(0, 3), 20);
        Due.text(x, 0, "30");
        x.become(0, 42);
        due.is("half of 31, not of 20", x.ofTool(0, 3), 15);
        due.is("ofTool(1, 0)", x.ofTool(1, 0), Due.BEYOND);
        due.is("ofTool(-1, 0)", x.ofTool(-1, 0), Due.BEYOND);
        due.is("ofTool(0, 7)", x.ofTool(0, 7), Due.BEYOND);
        due.is("ofTool(0, -1)", x.ofTool(0, -1), Due.BEYOND);
        due.is("told(1)", x.told(1), 4);
    }

    private static void become(Due due) {
        PaperBubbles x = new PaperBubbles();
        x.tool(37);
        due.is("become(0, 58)", x.become(0, 58), 3);
        due.is("become(0, 0)", x.become(0, 0), 5);
        due.is("become(0, 69)", x.become(0, 69), 0);
        due.is("become(0, 70)", x.become(0, 70), Due.BEYOND);
        due.is("become(0, -1)", x.become(0, -1), Due.BEYOND);
        due.is("become(1, 0)", x.become(1, 0), Due.BEYOND);
        due.is("become(-1, 0)", x.become(-1, 0), Due.BEYOND);
        due.is("KIND", x.ofTool(0, 0), 6);
        due.is("m", x.ofTool(0, 1), 9);
        due.is("TOOLS", x.count(1), 1);
        due.is("told(1)", x.told(1), 4);
    }

    private static void as(Due due) {
        // A row a kind: the kinds that it is of.
        String[] isOf = {"0", "01", "02", "03", "014", "025", "036"};
        PaperBubbles x = new PaperBubbles();
        x.tool(0);
        int refused = 0;
        for (int kind = 0; kind < 7; kind++) {
            x.become(0, 10 * kind + kind + 1);
            for (int as = 0; as < 7; as++) {
                boolean is = isOf[kind].indexOf('0' + as) >= 0;
                due.is(kind + " as " + as, x.as(0, as), is ? kind + 1 : Due.KIND);
                refused += is ? 0 : 1;
            }
        }
        due.is("as(0, 7)", x.as(0, 7), Due.BEYOND);
        due.is("as(0, -1)", x.as(0, -1), Due.BEYOND);
        due.is("as(1, 0)", x.as(1, 0), Due.BEYOND);
        due.is("as(-1, 0)", x.as(-1, 0), Due.BEYOND);
        due.is("told(1)", x.told(1), 4);
        due.is("told(5)", x.told(5), refused);
    }
}
