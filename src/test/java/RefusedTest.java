import support.Checks;

/** A refused call changes nothing, and no look does: a town so asked stays like one that isn't. */
public final class RefusedTest {
    private static final Checks CHECKS = new Checks();
    private static final int[] FAR = {-2147483648, -2147483647, -10000, 10001, 2147483646, 2147483647};

    private interface Call {
        long of(BowsOwed x);
    }

    private enum Scene {
        ORDINARY, FULL, NEW
    }

    public static void main(String[] args) {
        persons();
        bows();
        owes();
        walks();
        clears();
        hours();
        weeks();
        tapes();
        texts();
        played();
        necks();
        undos();
        looks();
        looksOfTwo();
        looksAhead();
        CHECKS.finish();
    }

    private static BowsOwed scene(Scene scene) {
        switch (scene) {
            case ORDINARY: return ordinary();
            case FULL: return full();
            default: return new BowsOwed();
        }
    }

    /** Four people, one of them indoors and one elsewhere, a text that rules, bytes and a fault. */
    private static BowsOwed ordinary() {
        BowsOwed x = new BowsOwed();
        x.person(30, 20, 0);
        x.person(60, 5, 0);
        x.person(10, 50, 4);
        x.person(40, 9, 0);
        x.weeks(4321, 9);
        Towns.ruin(x, 3, 0);
        x.owe(0, 1, 7);
        x.owe(1, 2, 8);
        x.image();
        x.owe(2, 0, 9);
        x.owe(1, 0, 40);
        x.neck(0, 7);
        Towns.rule(x, "size owes+1;late owes*2;ruin 500;");
        Towns.tell(x, "feast;walk 7;");
        Towns.put(x, "hour 3;feas;");
        return x;
    }

    /** Seven people, four texts, a full tape, thirty steps, and no hour any more. */
    private static BowsOwed full() {
        BowsOwed x = Towns.at(9999, 9, 7);
        for (int i = 0; i < 3; i++) {
            Towns.tell(x, "size " + (i + 2) + ";");
        }
        x.by(2);
        x.owe(0, 1, 50);
        x.owe(1, 0, 60);
        Towns.put(x, Towns.times(" ", 293) + "feast;!");
        return x;
    }

    private static void same(String call, BowsOwed x, BowsOwed y) {
        CHECKS.due(call + " leaves " + Towns.whole(x), Towns.whole(x).equals(Towns.whole(y)), true);
    }

    /** What is hidden behind what can be asked: the latest step, the tape, the texts, the image. */
    private static void sameBehind(String call, BowsOwed x, BowsOwed y) {
        CHECKS.due(call + ": undo", x.undo(), y.undo());
        CHECKS.due(call + ": owed", x.of(0, 5), y.of(0, 5));
        CHECKS.due(call + ": left", x.of(0, 3), y.of(0, 3));
        CHECKS.due(call + ": hour", x.about(2), y.about(2));
        CHECKS.due(call + ": more", x.more(0, 1, 7), y.more(0, 1, 7));
        CHECKS.due(call + ": text", x.text(), y.text());
        CHECKS.due(call + ": fault", x.fault(0) * 1000 + x.fault(1), y.fault(0) * 1000 + y.fault(1));
        CHECKS.due(call + ": back", x.back(), y.back());
        CHECKS.due(call + ": its steps", x.about(6), y.about(6));
        CHECKS.due(call + ": its people", x.about(0), y.about(0));
        CHECKS.due(call + ": its debts", x.of(0, 5), y.of(0, 5));
    }

    private static void refused(String name, Scene scene, long want, Call call) {
        CHECKS.about("refused: " + name + ", " + scene);
        BowsOwed x = scene(scene);
        BowsOwed y = scene(scene);
        CHECKS.due(name, call.of(x), want);
        same(name, x, y);
        sameBehind(name, x, y);
    }

    private static void looked(String name, Call call) {
        CHECKS.about("a look: " + name);
        BowsOwed x = ordinary();
        BowsOwed y = ordinary();
        long first = call.of(x);
        CHECKS.due(name + " again", call.of(x), first);
        same(name, x, y);
        sameBehind(name, x, y);
    }

    private static long is(boolean so) {
        return so ? 1 : 0;
    }

    private static void persons() {
        int[][] wrong = {{-1, 5, 5}, {100, 5, 5}, {5, -1, 5}, {5, 100, 5}, {5, 5, -1}, {5, 5, 8}};
        for (int[] w : wrong) {
            refused("person", Scene.ORDINARY, -1, x -> x.person(w[0], w[1], w[2]));
            refused("person", Scene.NEW, -1, x -> x.person(w[0], w[1], w[2]));
        }
        for (int far : FAR) {
            refused("age " + far, Scene.ORDINARY, -1, x -> x.person(far, 5, 5));
            refused("back " + far, Scene.ORDINARY, -1, x -> x.person(5, far, 5));
            refused("place " + far, Scene.ORDINARY, -1, x -> x.person(5, 5, far));
        }
        refused("an 8th person", Scene.FULL, -1, x -> x.person(5, 5, 5));
    }

    private static void bows() {
        // 0 meets 1 alone; 1 can bend 5, and 41 is its size to 0.
        int[][] wrong = {{0, 0}, {0, 2}, {2, 0}, {0, 3}, {3, 0}, {1, 0}, {0, 4}, {4, 0}, {0, -1}, {-1, 0}};
        for (int[] w : wrong) {
            refused("bow " + w[0] + " " + w[1], Scene.ORDINARY, -1, x -> x.bow(w[0], w[1]));
        }
        for (int far : FAR) {
            refused("bow by " + far, Scene.ORDINARY, -1, x -> x.bow(far, 0));
            refused("bow to " + far, Scene.ORDINARY, -1, x -> x.bow(0, far));
        }
        refused("bow of nobody", Scene.NEW, -1, x -> x.bow(0, 1));
        refused("bow to a 7", Scene.FULL, -1, x -> x.bow(0, 7));
    }

    private static void owes() {
        int[][] wrong = {{0, 1, 7}, {3, 1, 0}, {0, 0, 7}, {0, 0, 0}, {0, 1, -1}, {0, 1, 10000},
            {0, 4, 7}, {4, 0, 7}, {-1, 0, 7}, {0, -1, 7}};
        for (int[] w : wrong) {
            refused("owe " + w[0] + " " + w[1] + " " + w[2], Scene.ORDINARY, 0,
                x -> is(x.owe(w[0], w[1], w[2])));
        }
        for (int far : FAR) {
            refused("owe by " + far, Scene.ORDINARY, 0, x -> is(x.owe(far, 0, 7)));
            refused("owe to " + far, Scene.ORDINARY, 0, x -> is(x.owe(0, far, 7)));
            refused("owe so much as " + far, Scene.ORDINARY, 0, x -> is(x.owe(0, 2, far)));
        }
        refused("owe of nobody", Scene.NEW, 0, x -> is(x.owe(0, 1, 7)));
        refused("owe by a 7", Scene.FULL, 0, x -> is(x.owe(7, 0, 7)));
    }

    private static void walks() {
        int[][] wrong = {{3, 1}, {3, -1}, {0, 0}, {0, 2}, {0, -2}, {4, 1}, {-1, 1}};
        for (int[] w : wrong) {
            refused("walk " + w[0] + " " + w[1], Scene.ORDINARY, -1, x -> x.walk(w[0], w[1]));
        }
        for (int far : FAR) {
            refused("walk of " + far, Scene.ORDINARY, -1, x -> x.walk(far, 1));
            refused("walk by " + far, Scene.ORDINARY, -1, x -> x.walk(0, far));
        }
        refused("walk of nobody", Scene.NEW, -1, x -> x.walk(0, 1));
        refused("walk of a 7", Scene.FULL, -1, x -> x.walk(7, 1));
    }

    private static void clears() {
        int[][] wrong = {{0, 1, 2}, {0, 1, 1}, {0, 1, 0}, {0, 0, 1}, {0, 1, 3}, {0, 1, 4}, {4, 0, 1}, {-1, 0, 1}};
        for (int[] w : wrong) {
            refused("clear", Scene.ORDINARY, -1, x -> x.clear(w[0], w[1], w[2]));
        }
        for (int far : FAR) {
            refused("clear " + far, Scene.ORDINARY, -1, x -> x.clear(far, 0, 1));
            refused("clear and " + far, Scene.ORDINARY, -1, x -> x.clear(0, far, 1));
            refused("clear and at last " + far, Scene.ORDINARY, -1, x -> x.clear(0, 1, far));
        }
        refused("clear of nobody", Scene.NEW, -1, x -> x.clear(0, 1, 2));
        refused("clear without a third debt", Scene.FULL, -1, x -> x.clear(0, 1, 2));
    }

    private static void hours() {
        for (int n : new int[] {-1, 0, 61}) {
            refused("hour " + n, Scene.ORDINARY, -1, x -> x.hour(n));
            refused("hour " + n, Scene.NEW, -1, x -> x.hour(n));
        }
        for (int far : FAR) {
            refused("hour " + far, Scene.ORDINARY, -1, x -> x.hour(far));
        }
        refused("hour behind the last", Scene.FULL, -1, x -> x.hour(1));
        refused("sixty behind the last", Scene.FULL, -1, x -> x.hour(60));
    }

    private static void weeks() {
        int[][] wrong = {{-1, 5}, {10000, 5}, {5, 0}, {5, -1}, {5, 31}};
        for (int[] w : wrong) {
            refused("weeks " + w[0] + " " + w[1], Scene.ORDINARY, -1, x -> x.weeks(w[0], w[1]));
        }
        for (int far : FAR) {
            refused("weeks by " + far, Scene.ORDINARY, -1, x -> x.weeks(far, 5));
            refused("so many weeks as " + far, Scene.ORDINARY, -1, x -> x.weeks(5, far));
        }
        refused("weeks without people", Scene.NEW, -1, x -> x.weeks(5, 5));
    }

    private static void tapes() {
        refused("feed behind 300", Scene.FULL, -1, x -> x.feed(1, 2, 3, 4, 5));
        refused("end of 301", Scene.FULL, -1, x -> x.end(301));
        refused("end below 0", Scene.FULL, -1, x -> x.end(-1));
        refused("end of 13", Scene.ORDINARY, -1, x -> x.end(13));
        refused("end below 0", Scene.ORDINARY, -1, x -> x.end(-1));
        refused("end of 1", Scene.NEW, -1, x -> x.end(1));
        for (int far : FAR) {
            refused("end of " + far, Scene.ORDINARY, -1, x -> x.end(far));
        }
    }

    private static void texts() {
        refused("a fifth text", Scene.FULL, -1, x -> x.text());
        refused("by 1", Scene.ORDINARY, 0, x -> is(x.by(1)));
        refused("by -2", Scene.ORDINARY, 0, x -> is(x.by(-2)));
        refused("by 0", Scene.NEW, 0, x -> is(x.by(0)));
        refused("by 4", Scene.FULL, 0, x -> is(x.by(4)));
        for (int far : FAR) {
            refused("by " + far, Scene.FULL, 0, x -> is(x.by(far)));
        }
    }

    private static void played() {
        refused("played 1", Scene.ORDINARY, -2, x -> x.played(1));
        refused("played -1", Scene.ORDINARY, -2, x -> x.played(-1));
        refused("played 0", Scene.NEW, -2, x -> x.played(0));
        refused("played 4", Scene.FULL, -2, x -> x.played(4));
        refused("played hours behind the last", Scene.FULL, 0, x -> x.played(0));
        for (int far : FAR) {
            refused("played " + far, Scene.FULL, -2, x -> x.played(far));
        }
    }

    private static void necks() {
        int[][] wrong = {{-1, 5}, {4, 5}, {5, 5}, {0, -2}, {0, 1000}, {4, -1}};
        for (int[] w : wrong) {
            refused("neck " + w[0] + " " + w[1], Scene.ORDINARY, 0, x -> is(x.neck(w[0], w[1])));
        }
        refused("neck of nobody", Scene.NEW, 0, x -> is(x.neck(0, 5)));
        refused("neck of the sixth", Scene.FULL, 0, x -> is(x.neck(5, 5)));
        for (int far : FAR) {
            refused("neck of " + far, Scene.ORDINARY, 0, x -> is(x.neck(far, 5)));
            refused("neck bent " + far, Scene.ORDINARY, 0, x -> is(x.neck(0, far)));
        }
    }

    private static void undos() {
        refused("undo of nothing", Scene.NEW, -1, x -> x.undo());
        CHECKS.about("undo behind the 30th");
        BowsOwed x = full();
        BowsOwed y = full();
        for (int i = 29; i >= 0; i--) {
            CHECKS.due("undo", x.undo(), i);
            CHECKS.due("undo", y.undo(), i);
        }
        CHECKS.due("no more", x.undo(), -1);
        CHECKS.due("hour", x.about(1) * 10 + x.about(2), y.about(1) * 10 + y.about(2));
        CHECKS.due("tape", x.about(7), 300);
        CHECKS.due("the text", x.about(5), 2);
    }

    private static void looks() {
        for (int what = -1; what < 9; what++) {
            int w = what;
            looked("of " + w, x -> x.of(0, w) * 100L + x.of(3, w) + x.of(4, w));
            looked("about " + w, x -> x.about(w));
            looked("fault " + w, x -> x.fault(w));
            looked("book " + w, x -> x.book(w - 1, 0) * 1000L + x.book(0, w));
            looked("doors " + w, x -> x.doors(w));
        }
        looked("settled", x -> x.settled(false) * 10 + x.settled(true));
        looked("explained", x -> x.explained());
        looked("corner", x -> x.corner());
    }

    private static void looksOfTwo() {
        for (int one = -1; one < 5; one++) {
            int a = one;
            looked("route of " + a, x -> x.route(a, -1) * 100 + x.route(a, 0) * 10 + x.route(a, 9));
            for (int other = -1; other < 5; other++) {
                int b = other;
                looked("two", x -> x.two(a, b, 0) + x.two(a, b, 1) * 100 + x.two(a, b, 2) * 10000L
                    + x.two(a, b, 3) + x.two(a, b, 4));
                looked("more", x -> x.more(a, b, 77) * 10000L + x.more(a, b, 10000));
                looked("sure", x -> x.sure(a, b));
                looked("foretold", x -> x.foretold(35, a, b) * 100000L + x.foretold(1, a, b));
            }
        }
    }

    private static void looksAhead() {
        for (int hours = -1; hours < 62; hours += 3) {
            int n = hours;
            looked("indoors " + n, x -> x.indoors(n, 0) * 10 + x.indoors(n, 3));
            looked("first " + n, x -> x.first(n));
            looked("whose " + n, x -> x.whose(n));
            looked("foretold " + n, x -> x.foretold(n, 0, -1));
            looked("lane " + n, x -> x.lane(n, 9, 2, n, 50, 0) * 100 + x.lane(n, 9, 2, n, 50, 1));
        }
    }
}
