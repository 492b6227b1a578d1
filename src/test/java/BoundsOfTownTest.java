import support.Checks;

/** The document's first part: each sentence that names a bound, at the bound and one beyond it. */
public final class BoundsOfTownTest {
    private static final Checks CHECKS = new Checks();

    public static void main(String[] args) {
        people();
        numbersOfPeople(3);
        numbersOfPeople(7);
        ageAndBack();
        place();
        left();
        indoors();
        owes();
        owesByNight();
        dayAndHour();
        lastHour();
        hoursToTheLast();
        book();
        out();
        meet();
        bowsByLeft();
        bowsForMore();
        told();
        walks();
        feast();
        clearedThree();
        clearedByLeast();
        late();
        ruin();
        ruinOfMany();
        hours();
        stepsOfEachKind();
        noSteps();
        latestSteps();
        hoursAreSteps();
        takenBack();
        bookTakenBack();
        toldSince();
        notTakenBack();
        weeksBounds();
        weeksTimes();
        weeksDeeds(1);
        weeksDeeds(2);
        weeksDeeds(7);
        weeksIfItCan();
        weeksAtTheLastHour();
        manyCalls();
        CHECKS.finish();
    }

    private static void due(String call, long got, long want) {
        CHECKS.due(call, got, want);
    }

    private static void due(String call, boolean got, boolean want) {
        CHECKS.due(call, got, want);
    }

    private static void people() {
        CHECKS.about("PEOPLE 0 .. 6 (told one by one)");
        BowsOwed x = new BowsOwed();
        for (int i = 0; i < 7; i++) {
            due("people ahead of " + i, x.about(0), i);
            due("a wrong one takes no number", x.person(100, 0, 0), -1);
            due("person", x.person(10 + i, 20 + i, 7 - i), i);
        }
        due("an 8th", x.person(1, 1, 1), -1);
        due("a 9th", x.person(1, 1, 1), -1);
        due("people", x.about(0), 7);
        for (int i = 0; i < 7; i++) {
            int[] want = {10 + i, 20 + i, 7 - i, 20 + i, 0, 0, 0, 300};
            for (int what = 0; what < 8; what++) {
                due("of " + i + " " + what, x.of(i, what), want[what]);
            }
        }
    }

    /** The last of the people is one of them in each call, the next number and -1 are not. */
    private static void numbersOfPeople(int people) {
        CHECKS.about("the numbers of " + people);
        BowsOwed x = Towns.town(people);
        int last = people - 1;
        due("bow by the last", x.bow(last, 0), 98);
        due("bow to the last", x.bow(0, last), 97);
        due("owe by the last", x.owe(last, 0, 5), true);
        due("owe to the last", x.owe(0, last, 6), true);
        due("walk", x.walk(last, 1), 1);
        due("walk back", x.walk(last, -1), 0);
        due("more by the last", x.more(last, 0, 0), 1);
        due("more to the last", x.more(0, last, 0), 1);
        due("two by the last", x.two(last, 0, 0), 5);
        due("two to the last", x.two(0, last, 0), 6);
        due("of the last", x.of(last, 5), 5);
        due("owed to the last", x.of(last, 6), 6);
        due("foretold of the last", x.foretold(1, last, 0), 5);
        due("foretold to the last", x.foretold(1, 0, last), 6);
        due("foretold together", x.foretold(1, last, -1), 5);
        due("indoors", x.indoors(1, last), 0);
        due("route", x.route(last, -1), 0);
        due("doors", x.doors(people - 1) >= 0, true);
        due("door behind the last", x.doors(people), -1);
        x.owe(0, 1, 5);
        x.owe(1, last, 5);
        due("clear", x.clear(last, 0, 1), 5);
        int steps = x.about(6);
        nobody(x, people);
        nobody(x, -1);
        due("no steps", x.about(6), steps);
    }

    private static void nobody(BowsOwed x, int none) {
        due("bow by " + none, x.bow(none, 0), -1);
        due("bow to " + none, x.bow(0, none), -1);
        due("owe by " + none, x.owe(none, 0, 9), false);
        due("owe to " + none, x.owe(0, none, 9), false);
        due("walk of " + none, x.walk(none, 1), -1);
        due("clear of " + none, x.clear(none, 0, 1), -1);
        due("clear by " + none, x.clear(0, none, 1), -1);
        due("clear and " + none, x.clear(0, 1, none), -1);
        due("more by " + none, x.more(none, 0, 0), -1);
        due("more to " + none, x.more(0, none, 0), -1);
        due("foretold of " + none, x.foretold(1, none, 0), -2);
        due("foretold together of " + none, x.foretold(1, none, -1), -2);
        due("indoors of " + none, x.indoors(1, none), -2);
        due("route of " + none, x.route(none, -1), -2);
        due("neck of " + none, x.neck(none, 1), false);
        due("sure of " + none, x.sure(none, 0), -1);
        due("sure and " + none, x.sure(0, none), -1);
        for (int what = 0; what < 8; what++) {
            due("of " + none + " " + what, x.of(none, what), -1);
        }
        for (int what = 0; what < 4; what++) {
            due("two of " + none + " " + what, x.two(none, 0, what), -1);
            due("two to " + none + " " + what, x.two(0, none, what), -1);
        }
        if (none >= 0) {
            due("foretold to " + none, x.foretold(1, 0, none), -2);
        }
    }

    private static void ageAndBack() {
        CHECKS.about("AGE 0 .. 99, BACK 0 .. 99");
        for (int value : new int[] {0, 1, 98, 99}) {
            BowsOwed x = new BowsOwed();
            due("age " + value, x.person(value, 5, 5), 0);
            due("back " + value, x.person(5, value, 5), 1);
            due("its age", x.of(0, 0), value);
            due("its back", x.of(1, 1), value);
            due("at first all of it is left", x.of(1, 3), value);
        }
        for (int value : new int[] {-1, 100}) {
            BowsOwed x = new BowsOwed();
            due("age " + value, x.person(value, 5, 5), -1);
            due("back " + value, x.person(5, value, 5), -1);
            due("nobody", x.about(0), 0);
        }
    }

    private static void place() {
        CHECKS.about("PLACE 0 .. 7 (on a ring: behind 7 comes 0)");
        for (int place = 0; place < 8; place++) {
            BowsOwed x = new BowsOwed();
            due("place " + place, x.person(1, 1, place), 0);
            due("its place", x.of(0, 2), place);
            for (int i = 1; i <= 8; i++) {
                due("ahead from " + place, x.walk(0, 1), (place + i) % 8);
                due("where it is", x.of(0, 2), (place + i) % 8);
            }
            for (int i = 1; i <= 8; i++) {
                due("back from " + place, x.walk(0, -1), (place - i + 8) % 8);
            }
        }
        BowsOwed x = new BowsOwed();
        due("place -1", x.person(1, 1, -1), -1);
        due("place 8", x.person(1, 1, 8), -1);
        due("nobody", x.about(0), 0);
        x = Towns.ring(7, 0);
        due("7 isn't 0", x.two(0, 1, 3), 0);
        due("no bow", x.bow(0, 1), -1);
        x.walk(0, 1);
        due("they meet at 0", x.two(0, 1, 3), 1);
        x.walk(0, -1);
        x.walk(1, -1);
        due("they meet at 7", x.bow(1, 0), 98);
    }

    private static void left() {
        CHECKS.about("LEFT of its BACK today (at first all)");
        BowsOwed x = new BowsOwed();
        x.person(50, 0, 0);
        x.person(50, 1, 0);
        due("a bow takes 1 at least", x.bow(0, 1), -1);
        due("all of 1", x.bow(1, 0), 0);
        due("nothing is left", x.bow(1, 0), -1);
        x.hour(9);
        due("not in the day's last hour", x.of(1, 3), 0);
        x.hour(1);
        due("all again", x.of(1, 3), 1);
        due("all of nothing", x.of(0, 3), 0);
    }

    private static void indoors() {
        CHECKS.about("INDOORS for so many DAYS yet (0 .. 3; at first 0)");
        BowsOwed x = Towns.town(2);
        due("at first", x.of(0, 4), 0);
        x.hour(10);
        due("one less only if it is above 0", x.of(0, 4), 0);
        Towns.ruin(x, 0, 1);
        due("ruined", x.of(0, 4), 3);
        x.hour(9);
        due("hours don't count", x.of(0, 4), 3);
        x.hour(1);
        due("2", x.of(0, 4), 2);
        x.hour(10);
        due("1", x.of(0, 4), 1);
        due("1 is indoors", x.walk(0, 1), -1);
        x.hour(10);
        due("0", x.of(0, 4), 0);
        due("0 is out", x.walk(0, 1), 1);
        x.hour(10);
        due("0 yet", x.of(0, 4), 0);
        Towns.ruin(x, 0, 1);
        x.hour(10);
        Towns.ruin(x, 0, 1);
        due("ruined at 2: 3 again", x.of(0, 4), 3);
    }

    private static void owes() {
        CHECKS.about("OWES 0 .. 9999 (at first 0; what would be above is that)");
        BowsOwed x = Towns.town(2);
        due("at first", x.two(0, 1, 0), 0);
        due("10000", x.owe(0, 1, 10000), false);
        due("-1", x.owe(0, 1, -1), false);
        due("9999", x.owe(0, 1, 9999), true);
        due("is so", x.two(0, 1, 0), 9999);
        due("1", x.owe(0, 1, 1), true);
        due("0", x.owe(0, 1, 0), true);
        for (int owed = 9996; owed <= 9999; owed++) {
            x = Towns.town(2);
            x.owe(1, 0, owed);
            x.bow(0, 1);
            due("2 more than " + owed, x.two(1, 0, 0), Math.min(9999, owed + 2));
        }
        CHECKS.about("What it OWES that one is less by it (0 at least)");
        for (int owed = 0; owed <= 12; owed++) {
            x = Towns.town(2);
            x.owe(0, 1, owed);
            Towns.rule(x, "size 9;");
            x.bow(0, 1);
            due("9 less than " + owed, x.two(0, 1, 0), Math.max(0, owed - 9));
        }
    }

    private static void owesByNight() {
        CHECKS.about("OWES 0 .. 9999, by night");
        for (int owed : new int[] {0, 1, 4998, 4999, 5000, 5001, 9998, 9999}) {
            BowsOwed x = Towns.town(2);
            x.owe(0, 1, owed);
            Towns.rule(x, "ruin 9999;");
            due("late of " + owed, x.two(0, 1, 2), Math.min(9999, 2 * owed));
            due("nobody is above 9999", x.hour(10), 0);
            due("night over " + owed, x.two(0, 1, 0), Math.min(9999, 2 * owed));
        }
    }

    private static void dayAndHour() {
        CHECKS.about("DAY 0 .. 9999, HOUR 0 .. 9 (at first 0 each)");
        BowsOwed x = Towns.town(1);
        for (int hours = 0; hours < 25; hours++) {
            due("day", x.about(1), hours / 10);
            due("hour", x.about(2), hours % 10);
            due("an hour", x.hour(1), 0);
        }
        due("X: at first 97", x.about(3), 97);
    }

    private static void lastHour() {
        CHECKS.about("at DAY 9999, HOUR 9 none can pass");
        BowsOwed x = Towns.at(9999, 8, 2);
        due("day", x.about(1), 9999);
        due("hour", x.about(2), 8);
        due("two can't", x.hour(2), -1);
        due("none is done", x.about(2), 8);
        due("one can", x.hour(1), 0);
        due("hour 9", x.about(2), 9);
        due("no more", x.hour(1), -1);
        due("nor 60", x.hour(60), -1);
        due("hour 9 yet", x.about(2), 9);
        due("day 9999 yet", x.about(1), 9999);
        due("all else goes on", x.bow(0, 1), 98);
        x = Towns.at(9998, 9, 2);
        x.owe(0, 1, 151);
        due("the last night", x.hour(1), 1);
        due("its day", x.book(0, 0), 9999);
        due("hour 0", x.about(2), 0);
        due("its last hours", x.hour(9), 0);
        due("and no more", x.hour(1), -1);
    }

    private static void hoursToTheLast() {
        CHECKS.about("or if not all can (nothing is done then)");
        int[][] left = {{9998, 9, 10}, {9998, 5, 14}, {9998, 0, 19}, {9995, 3, 46}, {9994, 0, 59}};
        for (int[] at : left) {
            BowsOwed x = Towns.at(at[0], at[1], 1);
            due("one more than " + at[2], x.hour(at[2] + 1), -1);
            due("nothing done", x.about(1) * 10 + x.about(2), at[0] * 10 + at[1]);
            due("no step taken back", x.about(6), 30);
            due("all of " + at[2], x.hour(at[2]), 0);
            due("the last of all", x.about(1) * 10 + x.about(2), 99999);
        }
        BowsOwed x = Towns.at(9993, 9, 1);
        due("60 can", x.hour(60), 0);
        due("the last of all", x.about(1) * 10 + x.about(2), 99999);
    }

    private static void bookOf(BowsOwed x, int i, int day, int who, int sum) {
        due("day of " + i, x.book(i, 0), day);
        due("who of " + i, x.book(i, 1), who);
        due("sum of " + i, x.book(i, 2), sum);
    }

    /** A night in which the people from one up to another are ruined. */
    private static void ruins(BowsOwed x, int from, int to) {
        for (int i = from; i <= to; i++) {
            x.owe(i, (i + 1) % 7, 200 + i);
        }
        due("ruined", x.hour(10), to - from + 1);
    }

    private static void book() {
        CHECKS.about("BOOK (the latest 30 RUINED): DAY, who, how much");
        BowsOwed x = Towns.town(7);
        due("none", x.book(-1, 0), 0);
        due("the first of none", x.book(0, 0), -2);
        for (int day = 1; day <= 4; day++) {
            ruins(x, 0, 6);
            due("seven a night", x.book(-1, 0), 7 * day);
        }
        ruins(x, 0, 0);
        due("29", x.book(-1, 0), 29);
        due("no 30th", x.book(29, 0), -2);
        ruins(x, 1, 1);
        due("30", x.book(-1, 0), 30);
        bookOf(x, 0, 1, 0, 400);
        bookOf(x, 29, 6, 1, 402);
        due("no 31st", x.book(30, 0), -2);
        ruins(x, 6, 6);
        due("30 of 31", x.book(-1, 0), 30);
        bookOf(x, 0, 1, 1, 402);
        bookOf(x, 28, 6, 1, 402);
        bookOf(x, 29, 7, 6, 412);
        due("no 31st yet", x.book(30, 0), -2);
        ruins(x, 0, 6);
        due("30 of 38", x.book(-1, 0), 30);
        bookOf(x, 0, 2, 1, 402);
        bookOf(x, 22, 7, 6, 412);
        bookOf(x, 23, 8, 0, 400);
        bookOf(x, 29, 8, 6, 412);
        due("i -2", x.book(-2, 0), -2);
        due("what -1", x.book(29, -1), -2);
        due("what 3", x.book(29, 3), -2);
    }

    private static void out() {
        CHECKS.about("OUT: a PERSON that isn't INDOORS");
        BowsOwed x = Towns.town(4);
        Towns.ruin(x, 3, 0);
        x.owe(0, 1, 1);
        x.owe(1, 3, 1);
        x.owe(3, 0, 1);
        for (int days = 3; days > 0; days--) {
            due("indoors", x.of(3, 4), days);
            due("it bows", x.bow(3, 0), -1);
            due("to it", x.bow(0, 3), -1);
            due("it walks", x.walk(3, 1), -1);
            due("and back", x.walk(3, -1), -1);
            due("cleared", x.clear(0, 1, 3), -1);
            due("a walk", x.route(3, -1), -2);
            due("it meets", x.two(3, 0, 3) + x.two(0, 3, 3), 0);
            due("it can be told to owe", x.owe(3, 1, days), true);
            x.hour(10);
        }
        due("out", x.of(3, 4), 0);
        due("it meets", x.two(3, 0, 3) + x.two(0, 3, 3), 2);
        due("a walk", x.route(3, -1), 0);
        due("cleared", x.clear(0, 1, 3), 8);
        due("it bows", x.bow(3, 0), 98);
        due("to it", x.bow(0, 3), 97);
        due("it walks", x.walk(3, 1), 1);
    }

    private static void meet() {
        CHECKS.about("Two MEET: unlike ones, both OUT, at one PLACE");
        for (int place = 0; place < 8; place++) {
            BowsOwed x = Towns.ring(4, place);
            due("at " + place, x.two(0, 1, 3), place == 4 ? 1 : 0);
            due("bow at " + place, x.bow(0, 1), place == 4 ? 98 : -1);
        }
        BowsOwed x = Towns.town(2);
        due("one and itself", x.bow(1, 1), -1);
        due("asked of itself", x.two(1, 1, 3), -1);
        Towns.ruin(x, 0, 1);
        Towns.ruin(x, 1, 0);
        due("both indoors", x.two(0, 1, 3), 0);
        due("no bow", x.bow(0, 1), -1);
    }

    private static void bowsByLeft() {
        CHECKS.about("and LEFT is no less than size says");
        for (int back : new int[] {1, 2, 50, 98}) {
            BowsOwed x = new BowsOwed();
            x.person(50, back, 0);
            x.person(50, 99, 0);
            x.owe(0, 1, back + 1);
            due("one more than " + back, x.bow(0, 1), -1);
            due("nothing is less", x.of(0, 3), back);
            due("nor less owed", x.two(0, 1, 0), back + 1);
            x.owe(0, 1, back);
            due("just " + back, x.bow(0, 1), 0);
            due("owed no more", x.two(0, 1, 0), 0);
        }
        BowsOwed x = new BowsOwed();
        x.person(50, 99, 0);
        x.person(50, 98, 0);
        x.owe(0, 1, 9999);
        x.owe(1, 0, 9999);
        due("99 of 98", x.bow(1, 0), -1);
        due("99 of 99", x.bow(0, 1), 0);
        due("less by it", x.two(0, 1, 0), 9900);
        due("nothing is left", x.bow(0, 1), -1);
    }

    private static void bowsForMore() {
        CHECKS.about("if it was more than what it OWED, the other one OWES it more");
        int[] more = {12, 10, 9, 8, 7, 6, 5, 4, 3, 2, 0, 0};
        for (int owed = 0; owed < more.length; owed++) {
            BowsOwed x = Towns.town(2);
            x.owe(0, 1, owed);
            x.owe(1, 0, 100);
            Towns.rule(x, "size 10;");
            due("10 for " + owed, x.bow(0, 1), 89);
            due("more for 10 of " + owed, x.two(1, 0, 0), 100 + more[owed]);
        }
        BowsOwed x = Towns.town(2);
        x.owe(0, 1, 9);
        Towns.rule(x, "size 10; more 0;");
        x.bow(0, 1);
        due("nothing more by law", x.two(1, 0, 0), 0);
    }

    private static void told() {
        CHECKS.about("TOLD: what one OWES another one is another number (0 .. 9999)");
        BowsOwed x = Towns.town(2);
        due("0 at first", x.owe(0, 1, 0), false);
        due("no step", x.about(6), 0);
        for (int what : new int[] {1, 0, 9998, 9999}) {
            due("owe " + what, x.owe(0, 1, what), true);
            due("it is so", x.owe(0, 1, what), false);
            due("the other way", x.two(1, 0, 0), 0);
        }
        due("steps", x.about(6), 4);
        due("itself", x.owe(1, 1, 5), false);
        due("itself by nothing", x.owe(1, 1, 0), false);
        due("steps yet", x.about(6), 4);
    }

    private static void walks() {
        CHECKS.about("WALKS (1: one more, -1: one less)");
        BowsOwed x = Towns.ring(3);
        for (int way : new int[] {-3, -2, 0, 2, 3, 7, 8, 9}) {
            due("way " + way, x.walk(0, way), -1);
        }
        due("stays", x.of(0, 2), 3);
        due("no step", x.about(6), 0);
        due("1", x.walk(0, 1), 4);
        due("-1", x.walk(0, -1), 3);
    }

    private static void feast() {
        CHECKS.about("to whom it OWES most (of like ones to the lowest)");
        BowsOwed x = Towns.town(7);
        x.owe(6, 0, 4);
        x.owe(6, 1, 5);
        x.owe(6, 4, 5);
        x.owe(6, 5, 5);
        x.owe(0, 5, 9999);
        x.owe(0, 6, 9999);
        x.owe(3, 0, 1);
        x.owe(3, 6, 1);
        due("forgiven together", x.feast(), 5 + 9999 + 1);
        due("the lowest of three", x.two(6, 1, 0), 0);
        due("not the next", x.two(6, 4, 0), 5);
        due("nor the last", x.two(6, 5, 0), 5);
        due("nor a lower one for less", x.two(6, 0, 0), 4);
        due("5 ahead of 6", x.two(0, 5, 0), 0);
        due("6 stays", x.two(0, 6, 0), 9999);
        due("0 is lowest", x.two(3, 0, 0), 0);
        due("1 to the last stays", x.two(3, 6, 0), 1);
        due("again", x.feast(), 5 + 9999 + 1);
        due("4 ahead of 5", x.two(6, 4, 0), 0);
        due("5 ahead of 0", x.two(6, 5, 0), 5);
        due("two are left", x.feast() + x.feast(), 9);
        due("nothing", x.feast(), 0);
        due("without people", new BowsOwed().feast(), 0);
        due("one alone", Towns.town(1).feast(), 0);
    }

    private static BowsOwed cycle(int people, int first, int second, int third) {
        BowsOwed x = Towns.town(people);
        x.owe(0, 1, first);
        x.owe(1, 2, second);
        x.owe(2, 0, third);
        return x;
    }

    private static void clearedThree() {
        CHECKS.about("CLEARED: three unlike ones, all OUT, at one PLACE");
        BowsOwed x = cycle(3, 5, 5, 5);
        x.owe(1, 0, 5);
        due("first twice", x.clear(0, 0, 1), -1);
        due("second twice", x.clear(0, 1, 1), -1);
        due("first is last", x.clear(0, 1, 0), -1);
        due("one alone", x.clear(0, 0, 0), -1);
        for (int who = 0; who < 3; who++) {
            x = cycle(3, 5, 5, 5);
            x.walk(who, 1);
            due(who + " is ahead", x.clear(0, 1, 2), -1);
            x.walk(who, -1);
            x.walk(who, -1);
            due(who + " is behind", x.clear(0, 1, 2), -1);
            x.walk(who, 1);
            due("all at one place", x.clear(0, 1, 2), 5);
            x = Towns.town(4);
            Towns.ruin(x, who, 3);
            for (int i = 0; i < 3; i++) {
                x.owe(i, (i + 1) % 3, 5);
            }
            due(who + " is indoors", x.clear(0, 1, 2), -1);
        }
    }

    private static void clearedByLeast() {
        CHECKS.about("each of these is less by the least of them");
        int[][] all = {{1, 2, 3}, {2, 1, 3}, {3, 2, 1}, {1, 1, 1}, {9999, 9999, 9999}, {9999, 1, 9999}};
        for (int[] c : all) {
            BowsOwed x = cycle(3, c[0], c[1], c[2]);
            int least = Math.min(c[0], Math.min(c[1], c[2]));
            due("the other way", x.clear(0, 2, 1), -1);
            due("least", x.clear(0, 1, 2), least);
            due("first", x.two(0, 1, 0), c[0] - least);
            due("second", x.two(1, 2, 0), c[1] - least);
            due("third", x.two(2, 0, 0), c[2] - least);
            due("one owes nothing any more", x.clear(0, 1, 2), -1);
        }
        int[][] none = {{0, 1, 1}, {1, 0, 1}, {1, 1, 0}, {0, 0, 0}};
        for (int[] c : none) {
            BowsOwed x = cycle(3, c[0], c[1], c[2]);
            int steps = x.about(6);
            due("one owes nothing", x.clear(0, 1, 2), -1);
            due("no step", x.about(6), steps);
        }
    }

    private static void late() {
        CHECKS.about("what is above 0 is what late says");
        BowsOwed x = Towns.town(3);
        x.owe(0, 1, 1);
        x.owe(2, 1, 49);
        Towns.rule(x, "late 50;");
        due("late now of 1", x.two(0, 1, 2), 50);
        due("late now of nothing", x.two(1, 0, 2), 0);
        x.hour(9);
        due("not yet", x.two(0, 1, 0), 1);
        x.hour(1);
        due("1", x.two(0, 1, 0), 50);
        due("49", x.two(2, 1, 0), 50);
        due("nothing stays nothing", x.of(1, 5) + x.two(0, 2, 0) + x.two(2, 0, 0), 0);
        Towns.rule(x, "late 0;");
        x.hour(10);
        due("nothing by law", x.of(0, 5) + x.of(2, 5), 0);
    }

    private static void ruin() {
        CHECKS.about("if all that it OWES together is above ruin");
        int[][] ruins = {{300, 300}, {0, 0}, {1, 1}, {42, 42}, {9998, 9998}};
        for (int[] r : ruins) {
            BowsOwed x = Towns.town(3);
            x.owe(0, 1, r[0]);
            x.owe(1, 0, r[0] + 1);
            Towns.rule(x, r[1] == 300 ? "late owes;" : "late owes; ruin " + r[1] + ";");
            due("one by " + r[1], x.hour(10), 1);
            due("as much as ruin", x.of(0, 4), 0);
            due("owes it yet", x.of(0, 5), r[0]);
            due("one more", x.of(1, 4), 3);
            due("owes nobody", x.of(1, 5), 0);
            due("nothing at all", x.of(2, 4), 0);
            bookOf(x, 0, 1, 1, r[0] + 1);
        }
    }

    private static void ruinOfMany() {
        CHECKS.about("all that it OWES together, to each of six");
        BowsOwed x = Towns.town(7);
        for (int i = 0; i < 6; i++) {
            x.owe(6, i, 25);
            x.owe(0, i + 1, 1666);
        }
        Towns.rule(x, "ruin 300;");
        due("2 * 6 * 25 is 300; 0 is above", x.hour(10), 1);
        due("300 isn't", x.of(6, 5), 300);
        bookOf(x, 0, 1, 0, 2 * 6 * 1666);
        Towns.rule(x, "late owes; ruin 299;");
        due("but above 299", x.hour(10), 1);
        bookOf(x, 1, 2, 6, 300);
        due("owes nobody", x.of(6, 5), 0);
    }

    private static void hours() {
        CHECKS.about("HOURS pass (1 .. 60)");
        for (int n : new int[] {-60, -1, 0, 61, 62}) {
            BowsOwed x = Towns.town(1);
            due("hours " + n, x.hour(n), -1);
            due("none passed", x.about(1) + x.about(2) + x.about(6), 0);
        }
        for (int n : new int[] {1, 2, 9, 10, 11, 59, 60}) {
            BowsOwed x = Towns.town(1);
            due("hours " + n, x.hour(n), 0);
            due("they passed", x.about(1) * 10 + x.about(2), n);
        }
        BowsOwed x = Towns.town(7);
        for (int i = 0; i < 7; i++) {
            x.owe(i, (i + 1) % 7, i < 3 ? 151 : 101);
        }
        due("seven are ruined in two nights", x.hour(20), 7);
        due("the three first", x.book(2, 0), 1);
        due("then four", x.book(3, 0), 2);
        due("without people", new BowsOwed().hour(60), 0);
    }

    private static void stepsOfEachKind() {
        CHECKS.about("STEPS: BOWS, TOLD, WALKS, A FEAST, CLEARED, an HOUR (each), WEEKS");
        BowsOwed x = cycle(3, 5, 6, 7);
        due("told three times", x.about(6), 3);
        x.bow(0, 1);
        due("a bow", x.about(6), 4);
        x.owe(0, 1, 9);
        x.clear(0, 1, 2);
        due("cleared", x.about(6), 6);
        x.walk(0, 1);
        due("a walk", x.about(6), 7);
        x.feast();
        due("a feast", x.about(6), 8);
        x.feast();
        due("a feast of nothing left", x.about(6), 9);
        x.hour(1);
        due("an hour", x.about(6), 10);
        x.hour(11);
        due("eleven hours", x.about(6), 21);
        x.weeks(1, 30);
        due("weeks are one", x.about(6), 22);
    }

    private static void noSteps() {
        CHECKS.about("what isn't among the STEPS");
        BowsOwed x = Towns.town(3);
        x.owe(0, 1, 5);
        x.image();
        x.neck(0, 5);
        Towns.rule(x, "size 3;");
        Towns.tell(x, "size !;");
        x.person(1, 1, 1);
        due("one step", x.about(6), 1);
        due("taken back", x.undo(), 0);
        x.back();
        due("the image's step", x.about(6), 1);
    }

    private static void latestSteps() {
        CHECKS.about("the latest 30 can be taken back, the latest first");
        for (int steps : new int[] {1, 29, 30, 31, 59, 60, 61, 90, 91}) {
            BowsOwed x = Towns.town(2);
            for (int i = 1; i <= steps; i++) {
                x.owe(0, 1, i);
                due("steps", x.about(6), Math.min(30, i));
            }
            int kept = Math.min(30, steps);
            for (int i = 1; i <= kept; i++) {
                due("back " + i + " of " + steps, x.undo(), kept - i);
                due("owed ahead of it", x.two(0, 1, 0), steps - i);
            }
            due("none any more", x.undo(), -1);
            due("nothing is changed", x.two(0, 1, 0), steps - kept);
        }
        BowsOwed x = Towns.town(2);
        due("none at first", x.undo(), -1);
        for (int i = 1; i <= 40; i++) {
            x.owe(0, 1, i);
        }
        for (int i = 0; i < 20; i++) {
            x.undo();
        }
        for (int i = 1; i <= 25; i++) {
            x.owe(1, 0, i);
        }
        due("30 of 35", x.about(6), 30);
        for (int i = 0; i < 30; i++) {
            x.undo();
        }
        due("back to", x.two(0, 1, 0) * 100 + x.two(1, 0, 0), 1500);
    }

    private static void hoursAreSteps() {
        CHECKS.about("an HOUR (each)");
        BowsOwed x = Towns.town(1);
        x.hour(60);
        due("30 of 60", x.about(6), 30);
        due("the latest", x.undo(), 29);
        due("59 hours", x.about(1) * 10 + x.about(2), 59);
        for (int i = 0; i < 29; i++) {
            x.undo();
        }
        due("30 hours", x.about(1) * 10 + x.about(2), 30);
        due("no more", x.undo(), -1);
    }

    private static void deed(BowsOwed x, int i) {
        switch (i) {
            case 0: x.bow(3, 0); break;
            case 1: x.walk(2, -1); break;
            case 2: x.walk(2, 1); break;
            case 3: x.clear(0, 1, 2); break;
            case 4: x.owe(0, 3, 151); break;
            case 5: x.hour(1); break;
            case 6: x.feast(); break;
            case 7: x.weeks(9999, 30); break;
            case 8: x.owe(1, 2, 777); break;
            default: x.hour(10); break;
        }
    }

    private static void takenBack() {
        CHECKS.about("LEFT, PLACES, INDOORS, OWES, DAY, HOUR, X, BOOK are as ahead of it");
        for (int deed = 0; deed < 10; deed++) {
            BowsOwed x = cycle(4, 160, 90, 80);
            for (int i = 0; i < deed; i++) {
                deed(x, i);
            }
            String was = Towns.whole(x);
            int steps = x.about(6);
            deed(x, deed);
            due("deed " + deed + " changes something", Towns.whole(x).equals(was), false);
            while (x.about(6) > steps) {
                x.undo();
            }
            due("as ahead of " + deed + ": " + Towns.whole(x), Towns.whole(x).equals(was), true);
        }
    }

    private static void bookTakenBack() {
        CHECKS.about("BOOK and INDOORS are as ahead of it");
        BowsOwed x = Towns.town(7);
        for (int day = 1; day <= 4; day++) {
            ruins(x, 0, 6);
        }
        ruins(x, 2, 3);
        due("30", x.book(-1, 0), 30);
        ruins(x, 0, 4);
        due("30 yet", x.book(-1, 0), 30);
        bookOf(x, 0, 1, 5, 410);
        due("ruined again", x.of(2, 4), 3);
        x.undo();
        due("30 then", x.book(-1, 0), 30);
        bookOf(x, 0, 1, 0, 400);
        bookOf(x, 29, 5, 3, 406);
        due("indoors then", x.of(2, 4), 3);
        due("indoors since", x.of(0, 4), 2);
        due("it owes again", x.of(0, 5), 200);
        for (int i = 0; i < 15; i++) {
            x.undo();
        }
        due("28", x.book(-1, 0), 28);
        due("day 4", x.about(1), 4);
    }

    private static void toldSince() {
        CHECKS.about("PEOPLE told since are as told and OWE nothing, nor does anybody OWE them");
        BowsOwed x = Towns.town(5);
        x.owe(0, 1, 5);
        x.owe(1, 0, 6);
        due("sixth", x.person(1, 77, 7), 5);
        due("seventh", x.person(2, 66, 6), 6);
        x.walk(6, 1);
        x.owe(5, 0, 301);
        x.owe(0, 6, 9);
        x.owe(6, 5, 8);
        x.bow(5, 6);
        x.hour(10);
        due("ruined", x.of(5, 4), 3);
        for (int i = 0; i < 16; i++) {
            x.undo();
        }
        due("one step is left", x.about(6), 1);
        due("seven people", x.about(0), 7);
        int[][] want = {{1, 77, 7, 77, 0, 0, 0, 300}, {2, 66, 6, 66, 0, 0, 0, 300}};
        for (int what = 0; what < 8; what++) {
            due("of 5 " + what, x.of(5, what), want[0][what]);
            due("of 6 " + what, x.of(6, what), want[1][what]);
        }
        due("5 owed by 0", x.two(0, 1, 0), 5);
        due("not yet 6", x.two(1, 0, 0), 0);
        due("an 8th", x.person(1, 1, 1), -1);
        x.undo();
        due("as told yet", x.of(5, 3) * 100 + x.of(6, 2), 7706);
    }

    private static void notTakenBack() {
        CHECKS.about("what no STEP takes back");
        BowsOwed x = Towns.town(2);
        x.owe(0, 1, 5);
        x.owe(1, 0, 4);
        x.neck(0, 4);
        due("a text", Towns.rule(x, "size 7;"), true);
        due("another one", Towns.tell(x, "size 8"), -1);
        x.feed(1, 2, 3, 4, 5);
        x.undo();
        due("texts", x.about(4), 1);
        due("the text", x.about(5), 0);
        due("it rules", x.two(0, 1, 1), 7);
        due("tape", x.about(7), 20);
        due("fault", x.fault(0) * 10 + x.fault(1), 16);
        due("0 bent 4, not 5", x.explained(), 0);
        x.neck(0, 5);
        due("but 5", x.explained(), 1);
    }

    private static int next(int x) {
        return (x * 299 + 199) % 30323;
    }

    /** X behind so many turns of weeks: an hour takes two draws, all else three. */
    private static int after(int seed, int turns) {
        int x = seed * 2 + 97;
        for (int i = 0; i < turns; i++) {
            int deed = x % 7;
            x = next(next(x));
            x = deed >= 5 ? x : next(x);
        }
        return x;
    }

    private static void weeksBounds() {
        CHECKS.about("X is SEED (0 .. 9999) * 2 + 97; n times (1 .. 30)");
        BowsOwed x = Towns.town(2);
        int[][] wrong = {{-1, 1}, {10000, 1}, {0, 0}, {0, -1}, {0, 31}, {9999, 31}, {-1, 31}};
        for (int[] w : wrong) {
            due("weeks " + w[0] + " " + w[1], x.weeks(w[0], w[1]), -1);
            due("X stays", x.about(3), 97);
            due("no step", x.about(6), 0);
        }
        due("seed 0", x.weeks(0, 1), 0);
        due("X", x.about(3), after(0, 1));
        x.weeks(9999, 1);
        due("X by 9999", x.about(3), after(9999, 1));
        x.weeks(9998, 30);
        due("X by 9998", x.about(3), after(9998, 30));
        due("three steps", x.about(6), 3);
        x.undo();
        x.undo();
        due("X by 0 again", x.about(3), after(0, 1));
        x.undo();
        due("X at first", x.about(3), 97);
        CHECKS.about("NONE for others, and without PEOPLE");
        x = new BowsOwed();
        due("weeks of nobody", x.weeks(0, 1), -1);
        due("X stays", x.about(3), 97);
        due("no step", x.about(6), 0);
    }

    private static void weeksTimes() {
        CHECKS.about("n times (1 .. 30)");
        for (int n = 1; n <= 30; n++) {
            for (int seed = 0; seed < 9999; seed += 1111) {
                BowsOwed x = Towns.town(3);
                int day = x.weeks(seed, n);
                due("X by " + seed + " in " + n, x.about(3), after(seed, n));
                due("DAY", day, x.about(1));
                due("one step", x.about(6), 1);
            }
        }
    }

    /** One deed by each of many seeds, told from the draws by hand. */
    private static void weeksDeeds(int people) {
        CHECKS.about("0, 1, 2: .. BOWS; 3: it WALKS; 4: A FEAST; 5, 6: an HOUR; of " + people);
        // By 11 each of the seven deeds comes in turn.
        for (int seed = 0; seed <= 9999; seed += 11) {
            BowsOwed x = Towns.town(people);
            x.owe(0, 1, 3);
            x.weeks(seed, 1);
            int first = seed * 2 + 97;
            int deed = first % 7;
            int one = next(first) % people;
            int third = next(next(first));
            boolean bowed = deed <= 2 && third % people != one;
            int size = bowed && one == 0 && third % people == 1 ? 3 : 1;
            due("left of " + seed, x.of(one, 3), bowed ? 99 - size : 99);
            int way = third % 2 == 1 ? 1 : 7;
            due("place of " + seed, x.of(one, 2), deed == 3 ? way : 0);
            boolean feast = deed == 4 && third % 9 == 0;
            int owed = people == 1 || feast ? 0 : 3;
            if (bowed && one == 0 && third % people == 1) {
                owed = 0;
            } else if (bowed && one == 1 && third % people == 0) {
                owed = 5;
            }
            due("owed by " + seed, x.two(0, 1, 0), people == 1 ? -1 : owed);
            due("hour of " + seed, x.about(2), deed >= 5 ? 1 : 0);
            due("X of " + seed, x.about(3), after(seed, 1));
        }
    }

    private static void weeksIfItCan() {
        CHECKS.about("BOWS to that one, if it can; it WALKS, if it can");
        for (int seed = 0; seed < 9999; seed += 13) {
            BowsOwed x = new BowsOwed();
            x.person(50, 0, 0);
            x.person(50, 99, 1);
            x.person(50, 99, 0);
            Towns.ruin(x, 2, 0);
            x.weeks(seed, 1);
            int first = seed * 2 + 97;
            int one = next(first) % 3;
            int way = next(next(first)) % 2 == 1 ? 1 : 7;
            boolean walked = first % 7 == 3 && one < 2;
            due("no back, elsewhere or indoors by " + seed, x.of(1, 3) + x.of(2, 3), 198);
            due("nobody owes", x.of(0, 5) + x.of(1, 5) + x.of(2, 5), 0);
            due("one indoors stays", x.of(2, 2), 0);
            due("place of 0", x.of(0, 2), walked && one == 0 ? way : 0);
            due("place of 1", x.of(1, 2), walked && one == 1 ? (way + 1) % 8 : 1);
        }
    }

    private static void weeksAtTheLastHour() {
        CHECKS.about("5, 6: an HOUR (if it can pass)");
        BowsOwed x = Towns.at(9999, 9, 1);
        // 97 by 7 is 6, 103 by 7 is 5: an hour.
        due("an hour can't", x.weeks(0, 1), 9999);
        due("hour", x.about(2), 9);
        due("X", x.about(3), after(0, 1));
        due("nor this one", x.weeks(3, 1), 9999);
        due("hour yet", x.about(2), 9);
        x = Towns.at(9999, 8, 1);
        due("the last one can", x.weeks(0, 1), 9999);
        due("hour 9", x.about(2), 9);
        due("no more", x.weeks(0, 1), 9999);
        due("hour 9 yet", x.about(2), 9);
        x = Towns.at(9998, 9, 1);
        due("one that can, seed 3", x.weeks(3, 1), 9999);
        due("hour 0", x.about(2), 0);
        due("taken back", x.undo(), 29);
        due("day", x.about(1), 9998);
    }

    private static void manyCalls() {
        CHECKS.about("An object is used for at most 512 calls");
        BowsOwed x = Towns.town(1);
        for (int i = 0; i < 510; i++) {
            x.hour(60);
        }
        due("the 512th", x.about(1), 3060);
        x = Towns.town(2);
        for (int i = 0; i < 508; i++) {
            x.owe(0, 1, 1 + i % 2);
        }
        due("the 511th", x.undo(), 29);
        due("the last", x.two(0, 1, 0), 1);
    }
}
