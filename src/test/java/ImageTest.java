/** Promises 36 and 37: image, restore. */
public final class ImageTest {
    public static void main(String[] args) {
        Due due = new Due("ImageTest");
        first(due);
        all(due);
        more(due);
        due.end();
    }

    private static void first(Due due) {
        PaperBubbles x = new PaperBubbles();
        due.is("restore()", x.restore(), Due.NONE);
        due.is("told(2)", x.told(2), 1);
        x.nights(3);
        due.is("image()", x.image(), 1);
        due.is("image()", x.image(), 2);
        x.nights(4);
        due.is("restore()", x.restore(), 3);
        due.is("NIGHT", x.count(5), 3);
        due.is("image()", x.image(), 3);
        due.is("told(2) is not in the IMAGE", x.told(2), 1);
    }

    private static void all(Due due) {
        PaperBubbles x = new PaperBubbles();
        x.wall(2, 3);
        Due.airs(x, 1, 2, 3, 4, 5, 6);
        Due.pastes(x, 0, 0, 2, 0, 0, 9);
        x.edge(2, 1);
        x.tool(53);
        x.tool(31);
        x.stroke(0, 0, 0);
        Due.text(x, 0, "a-1");
        Due.text(x, 1, "a+c");
        Due.feed(x, "1+2");
        x.seed(99);
        x.tell(19);
        x.tell(17);
        x.nights(1);
        x.voice(0, 0, 0);
        x.sheet(0, 8, 2);
        due.is("image()", x.image(), 1);
        int[] counts = counts(x);

        x.wall(5, 5);
        for (int i = 0; i < 25; i++) {
            x.set(i, 0, 90);
            x.set(i, 1, 8);
        }
        x.edge(2, 0);
        x.edge(1, 1);
        x.become(0, 10);
        x.become(1, 69);
        x.tool(0);
        x.tool(60);
        x.stroke(3, 0, 1);
        x.stroke(3, 1, 1);
        x.law(0, 50, 0, 0);
        Due.feed(x, "+3");
        x.text(0);
        Due.text(x, 1, "7");
        Due.feed(x, "+++");
        x.seed(5);
        x.tell(1);
        x.check();
        x.tell(8);
        x.nights(9);
        x.voice(1, 3, 5);
        x.sheet(0, 16, 6);
        x.put(0, 5, 9);
        x.ofCell(25, 0);

        due.is("restore()", x.restore(), 1);
        int[] again = counts(x);
        for (int what = 0; what < 12; what++) {
            if (what != 10) {
                due.is("count(" + what + ")", again[what], counts[what]);
            }
        }
        due.rows("AIR", Due.all(x, 0), 0, 2, 1, 4, 5, 0);
        due.rows("PASTE", Due.all(x, 1), 0, 0, 1, 0, 0, 8);
        due.rows("SEEN", Due.all(x, 2), 0, 3, 3, 4, 6, 2);
        due.is("KIND", x.ofTool(0, 0), 5);
        due.is("m", x.ofTool(0, 1), 3);
        due.is("KIND", x.ofTool(1, 0), 3);
        due.is("m", x.ofTool(1, 1), 1);
        due.is("MOVED", x.law(0, 50, 0, 0), 49);
        due.is("the tape goes on", x.text(0), 1);
        due.is("1+2", x.law(0, 50, 0, 0), 3);
        due.is("what waited waits", x.check(), 1);
        due.is("THE TRACE is not in it", x.count(10), 9);
        due.is("SHEETS are not in it", x.put(0, 5, 9), 1);
        due.is("told() is not in it", x.told(1), 1);
        due.is("how often is not in it", x.image(), 2);
    }

    private static int[] counts(PaperBubbles x) {
        int[] counts = new int[12];
        for (int what = 0; what < 12; what++) {
            counts[what] = x.count(what);
        }
        return counts;
    }

    private static void more(Due due) {
        PaperBubbles x = new PaperBubbles();
        x.set(0, 0, 10);
        x.image();
        x.set(0, 0, 20);
        due.is("restore()", x.restore(), 0);
        due.is("AIR", x.ofCell(0, 0), 10);
        x.set(0, 0, 30);
        due.is("the IMAGE stays", x.restore(), 0);
        due.is("AIR", x.ofCell(0, 0), 10);
        x.set(0, 0, 40);
        x.image();
        x.set(0, 0, 50);
        x.restore();
        due.is("in place of the one ahead", x.ofCell(0, 0), 40);
        x.tell(40 - 5);
        x.image();
        x.check();
        x.tell(7);
        x.restore();
        due.is("the numbers that waited", x.check(), 0);
        // without a text again
        PaperBubbles y = new PaperBubbles();
        y.image();
        Due.text(y, 1, "3");
        Due.text(y, 0, "3");
        due.is("SEEN", y.shown(), 48);
        y.restore();
        due.is("SEEN without a text", y.shown(), 0);
        due.is("MOVED without a text", y.law(0, 60, 0, 0), 30);
    }
}
