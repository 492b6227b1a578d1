import support.Checks;

/** The document's third part: each sentence that names a bound, at the bound and one beyond it. */
public final class BoundsOfForesightTest {
    private static final Checks CHECKS = new Checks();

    public static void main(String[] args) {
        whats();
        foretoldHours();
        indoorsHours();
        foretoldAtTheLastHour();
        foretoldAsItRules();
        first();
        firstBehindAFullBook();
        whose();
        whoseOfLikeOnes();
        whoseAtTheLastHour();
        routeOnTheRing();
        routeSteps();
        routeRoundAbout();
        routeAside();
        routeOfEach();
        routeOfAllTowns();
        settled();
        settledByParts();
        settledAndDoors();
        laneBounds();
        laneOfOne();
        laneOfTwo();
        laneOfMany();
        doors();
        necks();
        explained();
        explainedAgain();
        sure();
        sureOfEach();
        corner();
        cornerOfLikeOnes();
        firstImage();
        image();
        textsBehindTheImage();
        CHECKS.finish();
    }

    private static void due(String call, long got, long want) {
        CHECKS.due(call, got, want);
    }

    private static void due(String call, boolean got, boolean want) {
        CHECKS.due(call, got, want);
    }

    private static void whats() {
        CHECKS.about("0 AGE, 1 BACK, ..: NONE for others; -2 for others");
        BowsOwed x = Towns.town(2);
        Towns.ruin(x, 0, 1);
        for (int what = -3; what < 12; what++) {
            due("of " + what, x.of(0, what) == -1, what < 0 || what > 7);
            due("two " + what, x.two(0, 1, what) == -1, what < 0 || what > 3);
            due("book " + what, x.book(0, what) == -2, what < 0 || what > 2);
            due("about " + what, x.about(what) == -2, what < 0 || what > 7);
            due("lane " + what, x.lane(1, 1, 1, 1, 1, what) == -1, what < 0 || what > 2);
        }
        for (int i = -3; i < 4; i++) {
            due("book's i " + i, x.book(i, 0), i == -1 || i == 0 ? 1 : -2);
        }
    }

    private static void foretoldHours() {
        CHECKS.about("FORETOLD behind n HOURS (1 .. 60)");
        for (int hour = 0; hour < 10; hour += 3) {
            BowsOwed x = Towns.town(3);
            x.hour(10 + hour);
            x.owe(0, 1, 1);
            x.owe(0, 2, 2);
            for (int n = 1; n <= 60; n++) {
                int nights = (n + hour) / 10;
                due("in " + n, x.foretold(n, 0, 1), 1 << nights);
                due("together in " + n, x.foretold(n, 0, -1), 3 << nights);
            }
            for (int n : new int[] {-60, -1, 0, 61, 62}) {
                due("in " + n, x.foretold(n, 0, 1), -2);
                due("together in " + n, x.foretold(n, 0, -1), -2);
                due("indoors in " + n, x.indoors(n, 0), -2);
                due("first in " + n, x.first(n), -1);
                due("whose in " + n, x.whose(n), -1);
            }
            due("itself", x.foretold(1, 0, 0), -2);
            due("-2", x.foretold(1, 0, -2), -2);
        }
    }

    private static void indoorsHours() {
        CHECKS.about("FORETOLD: INDOORS");
        BowsOwed x = Towns.town(2);
        x.owe(0, 1, 151);
        for (int n = 1; n <= 60; n++) {
            due("in " + n, x.indoors(n, 0), n < 10 ? 0 : Math.max(0, 4 - n / 10));
            due("the other one in " + n, x.indoors(n, 1), 0);
            due("owes in " + n, x.foretold(n, 0, 1), n < 10 ? 151 : 0);
            due("first in " + n, x.first(n), n < 10 ? -1 : 0);
        }
        x.hour(10);
        due("3 now", x.indoors(9, 0), 3);
        due("0 by then", x.indoors(30, 0), 0);
        due("1 ahead of it", x.indoors(29, 0), 1);
    }

    private static void foretoldAtTheLastHour() {
        CHECKS.about("those that can pass do");
        BowsOwed x = Towns.at(9998, 5, 2);
        x.owe(0, 1, 160);
        due("ahead of the last night", x.foretold(4, 0, 1), 160);
        due("behind it", x.foretold(5, 0, 1), 0);
        due("all of 14", x.foretold(14, 0, 1), 0);
        due("15 can't all", x.foretold(15, 0, 1), 0);
        due("60 neither", x.indoors(60, 0), 3);
        due("who", x.first(60), 0);
        due("nobody else", x.whose(60), 0);
        x.hour(14);
        x.owe(0, 1, 160);
        due("no night any more", x.foretold(60, 0, 1), 160);
        due("nor an hour", x.foretold(1, 0, -1), 160);
        due("indoors as now", x.indoors(60, 0), 3);
        due("nobody", x.first(60), -1);
        due("the last hour", x.about(1) * 10 + x.about(2), 99999);
    }

    private static void foretoldAsItRules() {
        CHECKS.about("nothing being done; by THE TEXT");
        BowsOwed x = Towns.town(2);
        x.owe(0, 1, 10);
        Towns.tell(x, "late owes+1;");
        Towns.tell(x, "late owes*3;ruin 29;");
        due("without", x.foretold(10, 0, 1), 20);
        x.by(0);
        due("by 0", x.foretold(60, 0, 1), 16);
        x.by(1);
        due("by 1: 30 is above 29", x.foretold(10, 0, 1), 0);
        due("by 1", x.first(10), 0);
        x.by(-1);
        due("without again", x.foretold(60, 0, 1), 0);
        due("640 isn't", x.first(59), 0);
        due("320 is above 300", x.first(50), 0);
        due("160 isn't", x.first(49), -1);
        due("it owes as ever", x.two(0, 1, 0), 10);
        due("no hour", x.about(1) + x.about(2), 0);
        due("no step", x.about(6), 1);
    }

    private static void first() {
        CHECKS.about("FIRST RUINED in n HOURS: who is written down first in these; none");
        BowsOwed x = Towns.town(7);
        due("nobody owes", x.first(60), -1);
        x.owe(6, 0, 151);
        due("the last of the people", x.first(10), 6);
        x.owe(5, 0, 151);
        due("by numbers", x.first(10), 5);
        x.owe(1, 0, 76);
        due("one later isn't first", x.first(60), 5);
        x.owe(0, 6, 151);
        due("0", x.first(10), 0);
        due("not in 9", x.first(9), -1);
        due("not in 1", x.first(1), -1);
        x.hour(9);
        due("in 1 now", x.first(1), 0);
        x.hour(1);
        due("those written down already aren't", x.first(9), -1);
        due("1 in the second night", x.first(10), 1);
        x.owe(1, 0, 0);
        due("none any more", x.first(60), -1);
        due("without people", new BowsOwed().first(60), -1);
    }

    private static void firstBehindAFullBook() {
        CHECKS.about("who is written down first in these, though the BOOK is full");
        BowsOwed x = Towns.town(7);
        for (int day = 0; day < 5; day++) {
            for (int i = 0; i < 7; i++) {
                x.owe(i, (i + 1) % 7, 200);
            }
            due("seven", x.hour(10), 7);
        }
        due("30", x.book(-1, 0), 30);
        due("none", x.first(60), -1);
        x.owe(4, 0, 200);
        x.owe(6, 0, 200);
        due("4", x.first(60), 4);
        due("the book is as it was", x.book(0, 1) * 10 + x.book(29, 1), 56);
        due("in so many hours", x.first(9), -1);
    }

    private static void whose() {
        CHECKS.about("WHOSE LAW: the TEXT, by which .. fewest are RUINED in n HOURS; none");
        BowsOwed x = Towns.town(4);
        x.owe(0, 1, 100);
        x.owe(1, 2, 100);
        x.owe(2, 3, 100);
        due("no text", x.whose(60), -1);
        Towns.tell(x, "ruin 99;");
        due("the only one", x.whose(60), 0);
        Towns.tell(x, "late owes; ruin 99+who;");
        due("one instead of three", x.whose(10), 1);
        Towns.tell(x, "late owes; ruin 98+who;");
        due("1 yet", x.whose(10), 1);
        Towns.tell(x, "late owes; ruin 100;");
        due("none by the fourth", x.whose(10), 3);
        due("none by the fourth in 60", x.whose(60), 3);
        due("all alike in 9: the lowest", x.whose(9), 0);
        due("and in 1", x.whose(1), 0);
        due("0", x.whose(0), -1);
        due("61", x.whose(61), -1);
        x.by(0);
        due("whoever rules", x.whose(60), 3);
        due("the text stays", x.about(5), 0);
        due("nobody is ruined", x.book(-1, 0), 0);
    }

    private static void whoseOfLikeOnes() {
        CHECKS.about("of like ones the lowest");
        String[] laws = {"late 400;", "late owes;", "late owes-1;", "late 301;"};
        int[][] orders = {{0, 1, 2, 3}, {1, 0, 2, 3}, {0, 3, 2, 1}, {3, 0, 0, 0}, {0, 0, 0, 2}, {1, 2, 1, 2}};
        int[] want = {1, 0, 2, 0, 3, 0};
        for (int i = 0; i < orders.length; i++) {
            BowsOwed x = Towns.town(2);
            x.owe(0, 1, 5);
            for (int law : orders[i]) {
                Towns.tell(x, laws[law]);
            }
            due("order " + i, x.whose(10), want[i]);
            due("order " + i + " in 60", x.whose(60), want[i]);
            due("order " + i + " in 9", x.whose(9), 0);
        }
        BowsOwed x = new BowsOwed();
        Towns.tell(x, "");
        Towns.tell(x, "");
        due("without people", x.whose(1), 0);
    }

    private static void whoseAtTheLastHour() {
        CHECKS.about("WHOSE LAW at the last hour");
        BowsOwed x = Towns.at(9999, 9, 2);
        x.owe(0, 1, 9999);
        Towns.tell(x, "ruin 9999;");
        due("no night comes, so none are ruined", x.whose(60), 0);
        x.undo();
        x.undo();
        x.owe(0, 1, 9999);
        due("nor at hour 8", x.whose(1), 0);
    }

    private static void steps(BowsOwed x, int one, int... way) {
        due("steps of " + one, x.route(one, -1), way.length);
        for (int i = 0; i < way.length; i++) {
            due("step " + i, x.route(one, i), way[i]);
        }
        due("behind the last", x.route(one, way.length), -2);
        due("i -2", x.route(one, -2), -2);
    }

    private static void none(BowsOwed x, int one) {
        due("no walk of " + one, x.route(one, -1), -2);
        due("nor its first step", x.route(one, 0), -2);
    }

    private static void routeOnTheRing() {
        CHECKS.about("A WALK: the fewest steps; of like ones 1 ahead of -1");
        int[][] ways = {{}, {1}, {1, 1}, {1, 1, 1}, {1, 1, 1, 1}, {-1, -1, -1}, {-1, -1}, {-1}};
        for (int from = 0; from < 8; from++) {
            for (int far = 0; far < 8; far++) {
                BowsOwed x = Towns.ring(from, (from + far) % 8);
                x.owe(0, 1, 1);
                steps(x, 0, ways[far]);
                steps(x, 1);
            }
        }
    }

    private static void routeSteps() {
        CHECKS.about("how many steps (i NONE), the i-th (1, -1). -2: none, there is none such");
        BowsOwed x = Towns.ring(6, 0, 5);
        x.owe(0, 1, 9999);
        x.owe(0, 2, 1);
        // Two ahead or one back first: 1 and 3 steps are fewer than 2 and 3.
        steps(x, 0, -1, 1, 1, 1);
        x.walk(1, -1);
        steps(x, 0, 1, -1, -1);
        x.walk(2, -1);
        steps(x, 0, 1, -1, -1, -1);
        due("4", x.route(0, 4), -2);
        due("far off", x.route(0, 2147483647), -2);
        due("far below", x.route(0, -2147483648), -2);
    }

    private static void routeRoundAbout() {
        CHECKS.about("never at one where all others that are OUT are such that it OWES them nothing");
        for (int from = 0; from < 8; from++) {
            BowsOwed x = Towns.ring(from, (from + 2) % 8, (from + 1) % 8);
            x.owe(0, 1, 1);
            steps(x, 0, -1, -1, -1, -1, -1, -1);
            x.walk(2, 1);
            steps(x, 0, 1, 1);
            x.walk(2, 1);
            steps(x, 0, 1, 1);
            x = Towns.ring(from, (from + 6) % 8, (from + 7) % 8, (from + 1) % 8);
            x.owe(0, 1, 1);
            none(x, 0);
            x.owe(0, 3, 1);
            steps(x, 0, 1, 1, 1, 1, 1, 1);
            x.owe(0, 2, 1);
            steps(x, 0, 1, -1, -1, -1);
            x.owe(0, 3, 0);
            steps(x, 0, -1, -1);
        }
        BowsOwed x = Towns.ring(0, 4, 3, 5);
        x.owe(0, 2, 1);
        x.owe(0, 3, 1);
        // Three ahead, six back: no walk is longer.
        steps(x, 0, 1, 1, 1, -1, -1, -1, -1, -1, -1);
        x.walk(1, 1);
        steps(x, 0, 1, 1, 1, 1, 1);
    }

    private static void routeAside() {
        CHECKS.about("(its own at first aside)");
        for (int from = 0; from < 8; from++) {
            BowsOwed x = Towns.ring(from, from, (from + 1) % 8);
            steps(x, 0);
            x.owe(0, 2, 1);
            steps(x, 0, 1);
            x.owe(0, 1, 1);
            steps(x, 0, 1);
            x.owe(0, 2, 0);
            steps(x, 0);
        }
        CHECKS.about("where somebody else is OUT");
        BowsOwed x = Towns.ring(0, 1, 2, 7);
        Towns.ruin(x, 1, 0);
        x.owe(0, 1, 9);
        steps(x, 0);
        x.owe(0, 2, 9);
        steps(x, 0, 1, 1);
        due("one that isn't OUT", x.route(1, -1), -2);
        x.hour(20);
        x.owe(0, 1, 0);
        due("a day indoors yet", x.route(1, -1), -2);
        steps(x, 0, 1, 1);
        x.hour(10);
        due("out", x.route(1, -1), 0);
        none(x, 0);
    }

    private static void routeOfEach() {
        CHECKS.about("A WALK of each of seven, one behind the other");
        BowsOwed x = Towns.ring(0, 1, 2, 3, 4, 5, 6);
        for (int one = 0; one < 7; one++) {
            x.owe(one, (one + 6) % 7, 1);
        }
        for (int one = 1; one < 7; one++) {
            steps(x, one, -1);
        }
        steps(x, 0, -1, -1);
        due("an 8th", x.route(7, -1), -2);
        due("-1", x.route(-1, -1), -2);
        x.owe(0, 6, 0);
        steps(x, 0);
        steps(x, 1, -1);
        none(Towns.town(0), 0);
    }

    /** The first of the shortest walks, tried one by one: 1 for a bit 0, -1 for a bit 1; or null. */
    private static int[] shortest(int from, int wanted, int shunned) {
        for (int n = 0; n <= 10; n++) {
            for (int bits = 0; bits < 1 << n; bits++) {
                int[] way = new int[n];
                int place = from;
                int seen = 1 << place;
                boolean goes = true;
                for (int i = 0; i < n && goes; i++) {
                    way[i] = (bits >> (n - 1 - i) & 1) == 0 ? 1 : -1;
                    place = (place + way[i] + 8) % 8;
                    seen |= 1 << place;
                    goes = (shunned >> place & 1) == 0;
                }
                if (goes && (wanted & ~seen) == 0) {
                    return way;
                }
            }
        }
        return null;
    }

    private static void routeOfAllTowns() {
        CHECKS.about("A WALK through each way in which six others can stand");
        for (int town = 0; town < 6561; town++) {
            int from = town % 8;
            BowsOwed x = new BowsOwed();
            x.person(1, 1, from);
            int wanted = 0;
            int shunned = 0;
            for (int place = 0, rest = town; place < 8; place++, rest /= 3) {
                if (rest % 3 > 0 && x.person(1, 1, place) > 0) {
                    wanted |= rest % 3 == 1 ? 1 << place : 0;
                    shunned |= rest % 3 == 2 ? 1 << place : 0;
                    x.owe(0, x.about(0) - 1, rest % 3 == 1 ? 1 : 0);
                }
            }
            int[] way = shortest(from, wanted, shunned);
            int steps = way == null ? -2 : way.length;
            due("steps in town " + town, x.route(0, -1), steps);
            for (int i = 0; i < steps; i++) {
                due("step " + i + " in town " + town, x.route(0, i), way[i]);
            }
        }
    }

    private static void settled(BowsOwed x, int payments, int sets) {
        due("payments", x.settled(false), payments);
        due("sets", x.settled(true), sets);
    }

    private static void settled() {
        CHECKS.about("SETTLED: the fewest payments; the most sets EVEN BY ITSELF");
        for (int people = 0; people <= 7; people++) {
            settled(Towns.town(people), 0, people);
        }
        for (int people = 2; people <= 7; people++) {
            BowsOwed x = Towns.town(people);
            x.owe(people - 1, 0, 1);
            settled(x, 1, people - 1);
            x.owe(people - 1, 0, 9999);
            settled(x, 1, people - 1);
            x.owe(0, people - 1, 9999);
            settled(x, 0, people);
            x.owe(0, people - 1, 9998);
            settled(x, 1, people - 1);
        }
        BowsOwed x = Towns.town(7);
        for (int i = 1; i < 7; i++) {
            x.owe(0, i, 9999);
        }
        settled(x, 6, 1);
    }

    private static void settledByParts() {
        CHECKS.about("parted into (those who are even one by one, too)");
        int[][] partners = {{1, 0, 3, 2, 5, 4, 6}, {6, 5, 4, 3, 2, 1, 0}, {2, 3, 0, 1, 6, 5, 4},
            {0, 6, 5, 4, 3, 2, 1}, {1, 0, 6, 5, 4, 3, 2}};
        for (int[] partner : partners) {
            BowsOwed x = Towns.town(7);
            for (int i = 0; i < 7; i++) {
                if (i < partner[i]) {
                    x.owe(i, partner[i], 10 + i);
                }
            }
            settled(x, 3, 4);
        }
        BowsOwed x = Towns.town(7);
        x.owe(0, 6, 1);
        x.owe(1, 6, 2);
        x.owe(2, 6, 4);
        x.owe(3, 5, 8);
        x.owe(4, 5, 16);
        settled(x, 5, 2);
        x.owe(5, 6, 32);
        settled(x, 6, 1);
        x = Towns.town(6);
        x.owe(0, 5, 3);
        x.owe(1, 4, 3);
        x.owe(2, 3, 5);
        x.owe(4, 2, 4);
        // Had together: -3, -3, -1, 5, -1, 3.
        settled(x, 4, 2);
    }

    private static void lane(BowsOwed x, int[] with, int step, int first, int second) {
        int[] want = {step, first, second};
        for (int what = 0; what < 3; what++) {
            due("lane " + java.util.Arrays.toString(with) + " " + what,
                x.lane(with[0], with[1], with[2], with[3], with[4], what), want[what]);
        }
    }

    private static void settledAndDoors() {
        CHECKS.about("SETTLED and DOORS, asked by turns");
        BowsOwed x = Towns.town(4);
        x.owe(0, 1, 5);
        x.owe(1, 0, 5);
        x.owe(2, 3, 6);
        for (int i = 0; i < 3; i++) {
            settled(x, 1, 3);
            order(x, 5, 0, 1, 3, 2);
        }
        x.owe(1, 2, 7);
        for (int i = 0; i < 3; i++) {
            order(x, 5, 0, 3, 2, 1);
            settled(x, 2, 2);
        }
    }

    private static void laneBounds() {
        CHECKS.about("A LANE of n steps (1 .. 20); (0 .. 99 each), (0 .. 999), (0 .. 9999)");
        BowsOwed x = new BowsOwed();
        int[] most = {20, 99, 99, 999, 9999};
        int[] least = {1, 0, 0, 0, 0};
        for (int i = 0; i < 5; i++) {
            for (int[] base : new int[][] {least, most, {5, 5, 5, 5, 5}}) {
                int[] with = base.clone();
                for (int value : new int[] {least[i], most[i]}) {
                    with[i] = value;
                    due("bound " + i, x.lane(with[0], with[1], with[2], with[3], with[4], 0) >= 0, true);
                }
                for (int value : new int[] {least[i] - 1, most[i] + 1}) {
                    with[i] = value;
                    for (int what = 0; what < 3; what++) {
                        due("beyond " + i, x.lane(with[0], with[1], with[2], with[3], with[4], what), -1);
                    }
                }
            }
        }
        lane(x, least, 0, 0, 0);
        lane(x, most, 0, 99, 999);
        lane(x, new int[] {20, 0, 99, 0, 9999}, 0, 0, 0);
        lane(x, new int[] {1, 99, 99, 999, 98}, 1, 98, 98);
        lane(x, new int[] {1, 99, 99, 999, 99}, 0, 99, 999);
    }

    private static void laneOfOne() {
        CHECKS.about("Each wants to pay least, of like ones bows; if nobody bows .. both pay c");
        BowsOwed x = new BowsOwed();
        for (int c = 0; c <= 20; c++) {
            boolean bows = 10 <= c;
            lane(x, new int[] {1, 10, 7, 30, c}, bows ? 0 : 1, bows ? 10 : c, bows ? 30 : c);
        }
        for (int n = 1; n <= 20; n++) {
            lane(x, new int[] {n, 1, 0, 0, 0}, n, 0, 0);
            lane(x, new int[] {n, 0, 0, 0, 0}, 0, 0, 0);
            lane(x, new int[] {n, 99, 99, 999, 98}, n, 98, 98);
        }
    }

    private static void laneOfTwo() {
        CHECKS.about("the other one pays r less k times b (0 at least)");
        BowsOwed x = new BowsOwed();
        // The second one bows at 1, as the first one pays less so.
        lane(x, new int[] {2, 99, 99, 99, 198}, 1, 0, 198);
        lane(x, new int[] {2, 99, 99, 98, 198}, 1, 0, 198);
        lane(x, new int[] {2, 99, 99, 0, 198}, 1, 0, 198);
        lane(x, new int[] {2, 99, 99, 100, 198}, 1, 1, 198);
        lane(x, new int[] {2, 99, 99, 197, 198}, 1, 98, 198);
        lane(x, new int[] {2, 99, 99, 198, 198}, 0, 99, 198);
        lane(x, new int[] {2, 99, 99, 99, 197}, 0, 99, 99);
        lane(x, new int[] {2, 20, 3, 22, 23}, 1, 19, 23);
        lane(x, new int[] {2, 20, 3, 23, 23}, 0, 20, 23);
        lane(x, new int[] {2, 20, 3, 22, 22}, 0, 20, 22);
        lane(x, new int[] {2, 20, 3, 22, 19}, 2, 19, 19);
    }

    private static void laneOfMany() {
        CHECKS.about("choosing by turns, the first one first");
        BowsOwed x = new BowsOwed();
        for (int n = 1; n <= 20; n++) {
            // The last to choose bows for 5, so the other one waits for 4: an even n is the second's.
            boolean second = n % 2 == 0;
            lane(x, new int[] {n, 5, 0, 4, 5}, second ? 1 : 0, second ? 4 : 5, second ? 5 : 4);
            lane(x, new int[] {n, 5, 0, 5, 5}, 0, 5, 5);
            lane(x, new int[] {n, 5, 0, 9, 4}, n, 4, 4);
            lane(x, new int[] {n, 5, 1, 9, 9999}, 0, 5, 9);
        }
        lane(x, new int[] {1, 1, 1, 0, 1}, 0, 1, 0);
        lane(x, new int[] {1, 1, 1, 0, 2}, 0, 1, 0);
        lane(x, new int[] {2, 1, 1, 0, 1}, 0, 1, 0);
        lane(x, new int[] {2, 1, 1, 0, 2}, 1, 0, 2);
        lane(x, new int[] {3, 1, 1, 0, 2}, 1, 0, 2);
        lane(x, new int[] {3, 1, 1, 0, 3}, 0, 1, 0);
        lane(x, new int[] {4, 1, 1, 0, 3}, 0, 1, 0);
        lane(x, new int[] {4, 1, 1, 0, 4}, 1, 0, 2);
        // At 2 the first one bows for 14 at most: then the second one waits at 1, else it bows there.
        lane(x, new int[] {3, 10, 2, 11, 14}, 0, 10, 11);
        lane(x, new int[] {3, 10, 2, 11, 13}, 1, 9, 12);
        lane(x, new int[] {3, 10, 2, 12, 13}, 0, 10, 12);
    }

    private static void order(BowsOwed x, int sum, int... order) {
        due("sum", x.doors(-1), sum);
        for (int i = 0; i < order.length; i++) {
            due("door " + i, x.doors(i), order[i]);
        }
        due("behind the last", x.doors(order.length), -1);
        due("far behind", x.doors(2147483647), -1);
        due("-2", x.doors(-2), -1);
        due("far ahead", x.doors(-2147483648), -1);
    }

    private static void doors() {
        CHECKS.about("DOORS: least together; of like ones the lowest number first, ..: that sum, the i-th");
        order(Towns.town(0), 0);
        order(Towns.town(1), 0, 0);
        order(Towns.town(2), 0, 0, 1);
        order(Towns.town(7), 0, 0, 1, 2, 3, 4, 5, 6);
        BowsOwed x = Towns.town(7);
        for (int i = 0; i < 7; i++) {
            for (int k = 0; k < 7; k++) {
                x.owe(i, k, 9999);
            }
        }
        order(x, 21 * 9999, 0, 1, 2, 3, 4, 5, 6);
        x.owe(6, 0, 9998);
        order(x, 21 * 9999 - 1, 1, 2, 3, 4, 5, 6, 0);
        x = Towns.town(7);
        for (int i = 0; i < 6; i++) {
            x.owe(i, i + 1, 1);
        }
        order(x, 0, 6, 5, 4, 3, 2, 1, 0);
        x.owe(6, 0, 1);
        order(x, 1, 0, 6, 5, 4, 3, 2, 1);
        x = Towns.town(2);
        x.owe(0, 1, 5);
        x.owe(1, 0, 5);
        order(x, 5, 0, 1);
        x.owe(1, 0, 4);
        order(x, 4, 1, 0);
        x.owe(1, 0, 6);
        order(x, 5, 0, 1);
    }

    private static void necks() {
        CHECKS.about("NECKS (told for each of the first 5 PEOPLE at most; at first none): 0 .. 999");
        for (int people = 0; people <= 7; people++) {
            BowsOwed x = Towns.town(people);
            for (int one = -2; one <= 8; one++) {
                boolean so = one >= 0 && one < people && one < 5;
                due("neck of " + one + " of " + people, x.neck(one, 7), so);
                due("not told any more", x.neck(one, -1), so);
                due("not told at all", x.neck(one, -1), so);
            }
        }
        BowsOwed x = Towns.town(5);
        x.owe(4, 0, 999);
        x.owe(3, 0, 1000);
        int[] bents = {-1000, -2, -1, 0, 1, 998, 999, 1000, 1001};
        for (int bent : bents) {
            due("bent " + bent, x.neck(4, bent), bent >= -1 && bent <= 999);
        }
        due("999 yet", x.explained(), 512);
        due("1000 can't be told", x.neck(3, 1000), false);
        due("999 can", x.neck(3, 999), true);
        due("but isn't so", x.explained(), 0);
        due("a step", x.about(6), 2);
    }

    private static void explained() {
        CHECKS.about("(any twos of the first 5 PEOPLE at most, each once)");
        int[] sets = {1, 1, 2, 8, 64, 1024, 1024, 1024};
        for (int people = 0; people <= 7; people++) {
            BowsOwed x = Towns.town(people);
            due("of " + people, x.explained(), sets[people]);
            if (people > 0) {
                due("told 0", x.neck(0, 0), true);
                due("nobody owes anything", x.explained(), sets[people]);
                x.neck(0, 1);
                due("so 1 can't be", x.explained(), 0);
            }
            if (people > 5) {
                x.neck(0, 5);
                x.owe(0, 5, 5);
                due("the 6th isn't among them", x.explained(), 0);
            }
        }
        BowsOwed x = Towns.town(5);
        for (int i = 0; i < 5; i++) {
            for (int k = 0; k < 5; k++) {
                x.owe(i, k, 9999);
            }
            x.neck(i, 0);
        }
        due("the empty set", x.explained(), 1);
        due("nobody met", x.sure(3, 4), 0);
        for (int i = 0; i < 5; i++) {
            for (int k = 0; k < 5; k++) {
                x.owe(i, k, 249);
            }
            x.neck(i, 996);
        }
        due("all ten", x.explained(), 1);
        due("all met", x.sure(3, 4), 1);
    }

    private static void explainedAgain() {
        CHECKS.about("EXPLAINED: what was reckoned ahead leaves nothing");
        for (int people = 2; people <= 5; people++) {
            BowsOwed x = Towns.town(people);
            int one = people - 2;
            int other = people - 1;
            x.owe(one, other, 5);
            x.owe(other, one, 7);
            x.neck(one, 5);
            x.neck(other, 7);
            int sets = 1 << people * (people - 1) / 2 - 1;
            for (int i = 0; i < 3; i++) {
                due("of " + people, x.explained(), sets);
                due("they met", x.sure(one, other), 1);
            }
            x.neck(other, 0);
            due("no set", x.explained(), 0);
            x.neck(one, 0);
            due("they didn't", x.sure(other, one), 0);
        }
    }

    private static void sure() {
        CHECKS.about("SURE: in all of them (1), in none (0), else NONE (also without any)");
        BowsOwed x = Towns.town(2);
        due("without necks", x.sure(0, 1), -1);
        x.owe(0, 1, 5);
        x.neck(0, 5);
        due("in all", x.sure(0, 1), 1);
        x.neck(0, 0);
        due("in none", x.sure(0, 1), 0);
        x.neck(0, 4);
        due("without any set", x.sure(0, 1), -1);
        x.neck(0, -1);
        x.neck(1, 0);
        due("1 owes nothing: either way", x.sure(0, 1), -1);
        due("itself", x.sure(1, 1), -1);
        due("2", x.sure(0, 2), -1);
        due("-1", x.sure(-1, 1), -1);
        due("one alone", Towns.town(1).sure(0, 0), -1);
    }

    private static void sureOfEach() {
        CHECKS.about("SURE and CORNER of each two of the first 5");
        for (int one = 0; one < 5; one++) {
            for (int other = 0; other < 5; other++) {
                if (one != other) {
                    BowsOwed x = Towns.town(7);
                    x.owe(one, other, 5);
                    due("neck", x.neck(one, 5), true);
                    due(one + " and " + other, x.sure(one, other), 1);
                    due(other + " and " + one, x.sure(other, one), 1);
                    due("512 sets", x.explained(), 512);
                    x.neck(one, 0);
                    due("not " + one + " and " + other, x.sure(one, other), 0);
                    due("not " + other + " and " + one, x.sure(other, one), 0);
                    due("corner", x.corner(), one + other == 1 ? 2 : 1);
                    x.neck(one, -1);
                    due("open", x.sure(one, other), -1);
                    due("one and the 6th", x.sure(one, 5), -1);
                    due("the 6th and one", x.sure(5, one), -1);
                    due("the 7th and one", x.sure(6, one), -1);
                }
            }
        }
    }

    /** Ten twos, all of which but one are known not to have met. */
    private static BowsOwed knownBut(int one, int other) {
        BowsOwed x = Towns.town(5);
        for (int i = 0; i < 5; i++) {
            x.neck(i, 0);
            for (int k = 0; k < 5; k++) {
                boolean open = i == one && k == other || i == other && k == one;
                x.owe(i, k, open ? 0 : 7);
            }
        }
        return x;
    }

    private static void corner() {
        CHECKS.about("CORNER: the two (10 times the lower and the other), not in all, not in none; none");
        for (int one = 0; one < 5; one++) {
            for (int other = one + 1; other < 5; other++) {
                BowsOwed x = knownBut(one, other);
                due("two sets", x.explained(), 2);
                due("the one that is open", x.corner(), 10 * one + other);
                x.owe(one, other, 7);
                due("no more", x.corner(), -1);
                due("sure", x.sure(one, other), 0);
                x.neck(one, 7);
                x.neck(other, 0);
                due("it met", x.sure(one, other), 1);
                due("in all", x.corner(), -1);
                x.neck(one, 3);
                due("without any set", x.corner(), -1);
            }
        }
        due("nobody", Towns.town(0).corner(), -1);
        due("one", Towns.town(1).corner(), -1);
        due("two", Towns.town(2).corner(), 1);
    }

    private static void cornerOfLikeOnes() {
        CHECKS.about("in as near to half of the sets as can be; of like ones the lowest");
        BowsOwed x = Towns.town(4);
        x.owe(0, 1, 2);
        x.owe(0, 2, 1);
        x.owe(0, 3, 1);
        x.neck(0, 2);
        x.neck(1, 0);
        x.owe(1, 2, 1);
        x.owe(1, 3, 1);
        x.owe(2, 3, 1);
        x.owe(3, 2, 1);
        x.neck(3, 0);
        // 0 met 1, or 2 and 3: each in half of the sets.
        due("two sets", x.explained(), 2);
        due("half: the lowest", x.corner(), 1);
        x.owe(0, 1, 1);
        x.neck(0, 1);
        due("three sets", x.explained(), 3);
        due("a third each: the lowest", x.corner(), 1);
        x.neck(0, 2);
        due("three sets of two", x.explained(), 3);
        due("two thirds each: the lowest", x.corner(), 1);
        x.owe(0, 1, 2);
        x.owe(0, 2, 2);
        x.owe(0, 3, 0);
        due("0 met 1 or 2, 3 at will", x.explained(), 4);
        due("all in half", x.corner(), 1);
        x.neck(0, 4);
        due("1 and 2 both", x.explained(), 2);
        due("3 in half", x.corner(), 3);
    }

    private static void firstImage() {
        CHECKS.about("Nobody; THE IMAGE is this");
        BowsOwed x = Towns.at(12, 3, 7);
        Towns.ruin(x, 0, 1);
        x.by(0);
        x.neck(0, 1);
        x.weeks(5, 5);
        due("back", x.back(), 0);
        int[] want = {0, 0, 0, 97, 0, -1, 0, 0};
        for (int what = 0; what < 8; what++) {
            due("about " + what, x.about(what), want[what]);
        }
        due("book", x.book(-1, 0), 0);
        due("no step", x.undo(), -1);
        due("one told anew", x.person(1, 2, 3), 0);
        due("as told", x.of(0, 0) * 100 + x.of(0, 1) * 10 + x.of(0, 2), 123);
        due("all left", x.of(0, 3) * 10 + x.of(0, 4), 20);
        x.person(4, 5, 6);
        due("owes nothing", x.of(0, 5) + x.of(0, 6) + x.of(1, 5) + x.of(1, 6), 0);
        due("no neck", x.explained(), 2);
        due("back again", x.back(), 0);
        due("nobody again", x.about(0), 0);
    }

    private static void image() {
        CHECKS.about("AN IMAGE: all as it is, STEPS as well, but the tape and the latest FAULT");
        BowsOwed x = Towns.town(3);
        Towns.rule(x, "size 4; ruin 200;");
        for (int i = 0; i < 40; i++) {
            x.owe(0, 1, 50 + i);
        }
        x.weeks(77, 9);
        x.neck(0, 3);
        String whole = Towns.whole(x);
        due("DAY", x.image(), x.about(1));
        for (int again = 0; again < 2; again++) {
            x.hour(60);
            x.feast();
            x.owe(1, 2, 9);
            x.walk(1, 1);
            x.neck(0, -1);
            x.person(1, 1, 1);
            Towns.rule(x, "size 7;");
            due("back", x.back(), x.about(1));
            due("all as it was", Towns.whole(x).equals(whole), true);
        }
        Towns.tell(x, "!");
        x.feed(0, 0, 0, 0, 0);
        x.back();
        due("the tape isn't", x.about(7), 20);
        due("nor the fault", x.fault(0) * 10 + x.fault(1), 10);
        for (int i = 29; i >= 0; i--) {
            due("steps", x.undo(), i);
            due("what they go back to", x.two(0, 1, 0), 60 + i);
        }
        due("no more", x.undo(), -1);
        x.back();
        due("the image stays", x.about(6), 30);
    }

    private static void textsBehindTheImage() {
        CHECKS.about("TEXTS told behind it are gone behind going back");
        for (int told = 0; told <= 4; told++) {
            BowsOwed x = Towns.town(2);
            for (int i = 0; i < told; i++) {
                due("text", Towns.tell(x, "size " + (10 + i) + ";"), i);
            }
            x.by(told - 1);
            x.image();
            for (int i = told; i < 4; i++) {
                due("behind it", Towns.rule(x, "size " + (20 + i) + ";"), true);
            }
            x.back();
            due("texts", x.about(4), told);
            due("the text", x.about(5), told - 1);
            due("it rules", x.two(0, 1, 1), told == 0 ? 1 : 9 + told);
            due("gone", x.by(told), false);
            due("nor played", x.played(told), -2);
            if (told < 4) {
                due("another one", Towns.rule(x, "size " + (30 + told) + ";"), true);
                due("rules", x.two(0, 1, 1), 30 + told);
                x.back();
                due("and is gone", x.about(4), told);
            }
        }
    }
}
