/** Promises 38 to 41: tell, check, count, told. */
public final class ToldTest {
    public static void main(String[] args) {
        Due due = new Due("ToldTest");
        tell(due);
        check(due);
        count(due);
        told(due);
        due.end();
    }

    private static void tell(Due due) {
        PaperBubbles x = new PaperBubbles();
        for (int i = 1; i <= 20; i++) {
            due.is("tell(0)", x.tell(0), i);
        }
        due.is("a 21st", x.tell(0), Due.FULL);
        due.is("20 wait", x.count(9), 20);
        due.is("told(4)", x.told(4), 1);
        due.is("check()", x.check(), 0);
        due.is("none waits", x.count(9), 0);
        due.is("tell(MIN)", x.tell(Integer.MIN_VALUE), 1);
        due.is("check()", x.check(), 1);
    }

    private static int check(PaperBubbles x, int... waiting) {
        for (int v : waiting) {
            x.tell(v);
        }
        return x.check();
    }

    private static void check(Due due) {
        PaperBubbles x = new PaperBubbles();
        due.is("none waits", x.check(), 0);
        Due.airs(x, 20, 50);
        Due.pastes(x, 5, 2);
        // 15 48, 11 47, 8 47, 6 47, 5 47
        due.is("check()", check(x, 63, 58, 55, 53, 52, 52, 52), 0);
        due.is("none does then", x.count(9), 0);
        due.is("check()", check(x, 63, 58, 55, 53, 52, 51, 52), 6);
        due.is("none does then", x.count(9), 0);
        due.is("check()", check(x, 70, 63), 1);
        due.is("check()", check(x, 63, 59, 1), 2);
        due.is("only thought", x.count(2), 70);
        due.is("only thought", x.count(5), 0);
        due.is("only thought", x.ofCell(0, 1), 5);
        due.is("check()", check(x, 63, 58, 55, 53, 52, 52, 52, 52, 52, 52, 52, 52, 52, 52, 52, 52, 52, 52, 52, 0), 20);
    }

    private static void count(Due due) {
        PaperBubbles x = new PaperBubbles();
        x.wall(3, 2);
        x.tool(54);
        x.tool(0);
        Due.airs(x, 9, 0, 30, 7);
        x.set(0, 1, 0);
        x.stroke(0, 0, 0);
        x.nights(2);
        x.edge(0, 1);
        x.edge(2, 1);
        x.feed(0, 7);
        x.tell(1);
        x.tell(1);
        x.tell(1);
        x.voice(1, 3, 1);
        x.seed(Due.STATE);
        int[] want = {6, 2, 21, 2, 9, 2, 1, 5, 7, 3, 4, Due.STATE};
        for (int what = 0; what < 12; what++) {
            due.is("count(" + what + ")", x.count(what), want[what]);
        }
        due.is("no ERROR", x.told(3), 0);
        due.is("count(12)", x.count(12), Due.BEYOND);
        due.is("count(-1)", x.count(-1), Due.BEYOND);
        due.is("told(1)", x.told(1), 2);
    }

    private static void told(Due due) {
        PaperBubbles x = new PaperBubbles();
        x.wall(0, 0);
        x.biggest(0);
        x.trace(0);
        x.days(1);
        x.tool(0);
        x.as(0, 1);
        due.is("told(1)", x.told(1), 1);
        due.is("told(2)", x.told(2), 2);
        due.is("told(3)", x.told(3), 1);
        due.is("told(4)", x.told(4), 0);
        due.is("told(5)", x.told(5), 1);
        due.is("told(0)", x.told(0), Due.BEYOND);
        due.is("told(6)", x.told(6), Due.BEYOND);
        due.is("told(-1)", x.told(-1), Due.BEYOND);
        due.is("told(MIN)", x.told(Integer.MIN_VALUE), Due.BEYOND);
        due.is("counted, too", x.told(1), 5);
        for (int i = 0; i < 6; i++) {
            x.tool(0);
        }
        due.is("told(4)", x.told(4), 1);
    }
}
