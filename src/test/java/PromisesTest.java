import support.Checks;

/** Each promise by itself: ordinary answers, the edges that the document names, wrong inputs. */
public final class PromisesTest {
    private static final Checks CHECKS = new Checks();

    public static void main(String[] args) {
        newObject();
        person();
        bow();
        owe();
        walk();
        feast();
        clear();
        hour();
        lastHour();
        weeks();
        tape();
        text();
        faultsByToken();
        faultsByNumber();
        faultsByDepthAndCount();
        by();
        sums();
        conditions();
        names();
        lawBounds();
        nightInOrder();
        played();
        undo();
        of();
        two();
        more();
        book();
        foretold();
        indoors();
        first();
        whose();
        route();
        settled();
        lane();
        doors();
        necks();
        image();
        about();
        farOff(Towns.town(0));
        farOff(Towns.town(7));
        CHECKS.finish();
    }

    private static void due(String call, long got, long want) {
        CHECKS.due(call, got, want);
    }

    private static void due(String call, boolean got, boolean want) {
        CHECKS.due(call, got, want);
    }

    private static void ruled(BowsOwed x, String text) {
        int told = Towns.tell(x, text);
        due("by the text " + text, x.by(told), true);
        due("fault of " + text, told, x.about(5));
    }

    /** What a sum is, as the law of more, from 0 to 9999, or of what is less, above 9999. */
    private static void sum(String sum, int want) {
        BowsOwed x = Towns.town(3);
        x.owe(0, 1, 7);
        x.owe(2, 0, 9);
        ruled(x, "more " + sum + ";");
        due("sum " + sum, x.more(1, 0, 40), want);
    }

    private static void fault(String text, int kind, int place) {
        BowsOwed x = new BowsOwed();
        due("text " + text, Towns.tell(x, text), kind == 0 ? 0 : BowsOwed.NONE);
        due("fault of " + text, x.fault(0), kind);
        due("fault's place of " + text, x.fault(1), place);
    }

    private static void newObject() {
        CHECKS.about("promise 1");
        BowsOwed x = new BowsOwed();
        int[] want = {0, 0, 0, 97, 0, -1, 0, 0};
        for (int what = 0; what < 8; what++) {
            due("about " + what, x.about(what), want[what]);
        }
        due("book", x.book(-1, 0), 0);
        due("fault 0", x.fault(0), -1);
        due("fault 1", x.fault(1), -1);
        x.person(1, 2, 3);
        x.feast();
        Towns.tell(x, "");
        x.by(0);
        due("back", x.back(), 0);
        due("people", x.about(0), 0);
        due("texts", x.about(4), 0);
        due("the text", x.about(5), -1);
        due("steps", x.about(6), 0);
    }

    private static void person() {
        CHECKS.about("promise 2");
        BowsOwed x = new BowsOwed();
        due("age 100", x.person(100, 0, 0), -1);
        due("age -1", x.person(-1, 0, 0), -1);
        due("back 100", x.person(0, 100, 0), -1);
        due("back -1", x.person(0, -1, 0), -1);
        due("place 8", x.person(0, 0, 8), -1);
        due("place -1", x.person(0, 0, -1), -1);
        due("most of all", x.person(99, 99, 7), 0);
        due("least of all", x.person(0, 0, 0), 1);
        for (int i = 2; i < 7; i++) {
            due("person", x.person(30 + i, 40 + i, i), i);
        }
        due("the 8th", x.person(1, 1, 1), -1);
        due("age", x.of(0, 0), 99);
        due("back", x.of(0, 1), 99);
        due("place", x.of(0, 2), 7);
        due("left", x.of(3, 3), 43);
        due("indoors", x.of(3, 4), 0);
        due("steps", x.about(6), 0);
    }

    private static void bow() {
        CHECKS.about("promise 3");
        BowsOwed x = new BowsOwed();
        x.person(30, 20, 0);
        x.person(60, 3, 0);
        x.person(60, 99, 1);
        due("for nothing owed", x.bow(0, 1), 19);
        due("a little more is owed", x.two(1, 0, 0), 2);
        due("back", x.bow(1, 0), 1);
        due("even", x.two(1, 0, 0) + x.two(0, 1, 0), 0);
        due("other place", x.bow(0, 2), -1);
        due("itself", x.bow(0, 0), -1);
        due("nobody", x.bow(0, 3), -1);
        due("by nobody", x.bow(-1, 0), -1);
        x.owe(1, 0, 2);
        due("more than is left", x.bow(1, 0), -1);
        due("nothing done", x.two(1, 0, 0), 2);
        due("steps of bows that can't be", x.about(6), 3);
        x.owe(1, 0, 1);
        due("just what is left", x.bow(1, 0), 0);
        due("nothing left", x.bow(1, 0), -1);

        x = Towns.town(2);
        x.owe(0, 1, 150);
        due("99 at most", x.bow(0, 1), 0);
        due("the rest is owed yet", x.two(0, 1, 0), 51);
        due("and nothing for it", x.two(1, 0, 0), 0);

        x = Towns.town(2);
        x.owe(0, 1, 4);
        ruled(x, "size 30;");
        due("30", x.bow(0, 1), 69);
        due("26, 2 and 1 more", x.two(1, 0, 0), 29);
        due("nothing owed any more", x.two(0, 1, 0), 0);
        x.owe(1, 0, 9990);
        due("30 again", x.bow(0, 1), 39);
        due("9999 at most", x.two(1, 0, 0), 9999);
        x.owe(0, 1, 30);
        x.bow(0, 1);
        due("as much as is owed: nothing more", x.two(1, 0, 0), 9999);
        due("nor any rest", x.two(0, 1, 0), 0);

        x = Towns.town(2);
        x.owe(0, 1, 5);
        ruled(x, "size 20; more 100 + owed whom to who;");
        x.bow(0, 1);
        due("more is asked when the first one owes less already", x.two(1, 0, 0), 100);
    }

    private static void owe() {
        CHECKS.about("promise 4");
        BowsOwed x = Towns.town(2);
        due("owe", x.owe(0, 1, 9999), true);
        due("so already", x.owe(0, 1, 9999), false);
        due("0", x.owe(0, 1, 0), true);
        due("0 already", x.owe(0, 1, 0), false);
        due("10000", x.owe(0, 1, 10000), false);
        due("-1", x.owe(0, 1, -1), false);
        due("itself", x.owe(1, 1, 1), false);
        due("nobody", x.owe(0, 2, 1), false);
        due("by nobody", x.owe(-1, 0, 1), false);
        due("steps", x.about(6), 2);
        due("other way", x.two(1, 0, 0), 0);
    }

    private static void walk() {
        CHECKS.about("promise 5");
        BowsOwed x = new BowsOwed();
        x.person(1, 1, 7);
        x.person(1, 1, 0);
        due("behind 7", x.walk(0, 1), 0);
        due("ahead of 0", x.walk(1, -1), 7);
        due("ahead of 7", x.walk(1, -1), 6);
        due("way 0", x.walk(0, 0), -1);
        due("way 2", x.walk(0, 2), -1);
        due("way -2", x.walk(0, -2), -1);
        due("nobody", x.walk(2, 1), -1);
        due("steps", x.about(6), 3);
        x.owe(0, 1, 301);
        x.hour(10);
        due("indoors", x.walk(0, 1), -1);
        due("stays", x.of(0, 2), 0);
    }

    private static void feast() {
        CHECKS.about("promise 6");
        BowsOwed x = Towns.town(4);
        x.owe(0, 1, 5);
        x.owe(0, 2, 9);
        x.owe(0, 3, 9);
        x.owe(1, 0, 3);
        x.owe(3, 0, 8);
        x.owe(3, 1, 8);
        due("feast", x.feast(), 20);
        due("most, the lowest of like ones", x.two(0, 2, 0), 0);
        due("not the other one", x.two(0, 3, 0), 9);
        due("not less", x.two(0, 1, 0), 5);
        due("the only one", x.two(1, 0, 0), 0);
        due("0 is the lowest", x.two(3, 0, 0), 0);
        due("3 to 1", x.two(3, 1, 0), 8);
        due("steps", x.about(6), 7);
        due("feast again", x.feast(), 17);
        due("and again", x.feast(), 5);
        due("of nothing", x.feast(), 0);
        due("a step as well", x.about(6), 10);
        due("without people", new BowsOwed().feast(), 0);
    }

    private static void clear() {
        CHECKS.about("promise 7");
        BowsOwed x = Towns.town(4);
        x.owe(0, 1, 9);
        x.owe(1, 2, 4);
        due("one owes nothing", x.clear(0, 1, 2), -1);
        x.owe(2, 0, 7);
        due("the other way", x.clear(0, 2, 1), -1);
        due("two alike", x.clear(0, 1, 1), -1);
        due("first and last alike", x.clear(0, 1, 0), -1);
        due("nobody", x.clear(0, 1, 4), -1);
        x.walk(2, 1);
        due("elsewhere", x.clear(0, 1, 2), -1);
        x.walk(2, -1);
        due("steps", x.about(6), 5);
        due("clear", x.clear(1, 2, 0), 4);
        due("first", x.two(0, 1, 0), 5);
        due("second", x.two(1, 2, 0), 0);
        due("third", x.two(2, 0, 0), 3);
        due("a step", x.about(6), 6);
        x.owe(1, 2, 1);
        x.owe(3, 0, 500);
        x.hour(10);
        x.owe(0, 1, 1);
        x.owe(1, 3, 1);
        x.owe(3, 0, 1);
        due("one indoors", x.clear(0, 1, 3), -1);
        due("all out", x.clear(0, 1, 2), 1);
    }

    private static void hour() {
        CHECKS.about("promise 8");
        BowsOwed x = Towns.town(3);
        due("0", x.hour(0), -1);
        due("61", x.hour(61), -1);
        due("-1", x.hour(-1), -1);
        x.owe(0, 1, 80);
        x.bow(1, 2);
        due("9", x.hour(9), 0);
        due("hour", x.about(2), 9);
        due("not yet late", x.two(0, 1, 0), 80);
        due("left as it was", x.of(1, 3), 98);
        due("the tenth", x.hour(1), 0);
        due("hour 0", x.about(2), 0);
        due("day 1", x.about(1), 1);
        due("late", x.two(0, 1, 0), 160);
        due("left again", x.of(1, 3), 99);
        due("steps each", x.about(6), 12);
        x.owe(1, 2, 151);
        due("two ruined", x.hour(10), 2);
        due("owes nobody", x.of(0, 5), 0);
        due("indoors", x.of(0, 4), 3);
        due("2 owes as ever", x.two(2, 1, 0), 8);
        x.owe(2, 1, 150);
        due("300 is not above 300", x.hour(10), 0);
        due("indoors yet", x.of(0, 4), 2);
        due("then ruined", x.hour(10), 1);
        due("for two days more", x.of(0, 4), 1);
        due("60", x.hour(60), 0);
        due("out again", x.of(0, 4), 0);
        due("and 2", x.of(2, 4), 0);

        x = Towns.town(2);
        x.owe(0, 1, 301);
        x.hour(10);
        x.owe(0, 1, 301);
        due("ruined indoors", x.hour(10), 1);
        due("for three days again", x.of(0, 4), 3);

        x = Towns.town(2);
        x.owe(0, 1, 6000);
        ruled(x, "ruin 9999;");
        due("9999 isn't above", x.hour(10), 0);
        due("what would be above is 9999", x.two(0, 1, 0), 9999);
    }

    private static BowsOwed atLastDay() {
        BowsOwed x = Towns.town(2);
        int year = Towns.tell(x, Towns.times("hour 60;", 24));
        for (int i = 0; i < 69; i++) {
            x.played(year);
        }
        return x;
    }

    private static void lastHour() {
        CHECKS.about("promises 8, 9, 15, 21: the last hour");
        BowsOwed x = atLastDay();
        due("69 * 144 days", x.about(1), 9936);
        int rest = Towns.tell(x, Towns.times("hour 60;", 10) + "hour 28;feast;");
        due("played up to hour 8", x.played(rest), -1);
        due("day", x.about(1), 9998);
        due("hour", x.about(2), 8);
        due("hour 11", x.hour(11), 0);
        due("9999", x.about(1), 9999);
        due("hour 9", x.about(2), 9);
        due("none can pass", x.hour(1), -1);
        x.undo();
        x.undo();
        due("hour 7", x.about(2), 7);
        due("3 can't", x.hour(3), -1);
        due("nothing done", x.about(2), 7);
        x.owe(0, 1, 5);
        due("foretold what can pass", x.foretold(60, 0, 1), 5);
        due("those that can pass do, then it ends", x.played(Towns.tell(x, "walk 1;hour 5;feast;")), 1);
        due("they passed", x.about(2), 9);
        due("no feast", x.two(0, 1, 0), 5);
        int steps = x.about(6);
        due("weeks without hours", x.weeks(1, 30), 9999);
        due("a step", x.about(6), steps == 30 ? 30 : steps + 1);
        due("hour 9 yet", x.about(2), 9);
        x.undo();
        x.undo();
        due("hour 8", x.about(2), 8);
        // 97 by 7 is 6.
        x.weeks(0, 1);
        due("the last hour in weeks", x.about(2), 9);
        due("the latest day", x.about(1), 9999);
    }

    private static void weeks() {
        CHECKS.about("promise 9");
        BowsOwed x = Towns.town(3);
        due("seed 10000", x.weeks(10000, 1), -1);
        due("seed -1", x.weeks(-1, 1), -1);
        due("n 0", x.weeks(0, 0), -1);
        due("n 31", x.weeks(0, 31), -1);
        due("without people", new BowsOwed().weeks(0, 1), -1);
        due("x as it was", x.about(3), 97);
        // 97 by 7 is 6: an hour; then one of three is drawn.
        due("an hour", x.weeks(0, 1), 0);
        due("hour", x.about(2), 1);
        due("x, twice", x.about(3), (29202 * 299 + 199) % 30323);
        // 99 by 7 is 1; then 29800 by 3 is 1; then 25501 by 3 is 1: it can't bow to itself.
        due("a bow that can't be", x.weeks(1, 1), 0);
        due("three draws", x.about(3), draws(99, 3));
        due("a step all the same", x.about(6), 2);
        due("the latest seed", x.weeks(9999, 30), x.about(1));
        x.undo();
        due("one step", x.about(3), draws(99, 3));
        checkDeeds();
    }

    private static int draws(int x, int n) {
        return n == 0 ? x : draws((x * 299 + 199) % 30323, n - 1);
    }

    /** One deed by each of many seeds, told from the draws by hand. */
    private static void checkDeeds() {
        for (int seed = 0; seed < 60; seed++) {
            BowsOwed x = Towns.town(2);
            x.owe(0, 1, 3);
            x.weeks(seed, 1);
            int at = seed * 2 + 97;
            int deed = at % 7;
            int one = draws(at, 1) % 2;
            int third = draws(at, 2);
            boolean bowed = deed <= 2 && third % 2 != one;
            due("deed 0..2 of " + seed, x.of(one, 3), bowed ? 99 - (one == 0 ? 3 : 1) : 99);
            int way = third % 2 == 1 ? 1 : 7;
            due("deed 3 of " + seed, x.of(one, 2), deed == 3 ? way : 0);
            boolean paid = (bowed && one == 0) || (deed == 4 && third % 9 == 0);
            // A bow of 1 that isn't owed makes 0 owe 2 more.
            due("deed 4 of " + seed, x.two(0, 1, 0), paid ? 0 : bowed ? 5 : 3);
            due("deed 5, 6 of " + seed, x.about(2), deed >= 5 ? 1 : 0);
            due("draws of " + seed, x.about(3), draws(at, deed >= 5 ? 2 : 3));
        }
        // One indoors can't walk, but its way is drawn.
        BowsOwed x = Towns.town(1);
        x.person(1, 1, 0);
        x.owe(0, 1, 301);
        x.owe(1, 0, 301);
        x.hour(10);
        due("a walk by one indoors", x.weeks(2, 1), 1);
        due("101 by 7 is 3", x.about(3), draws(101, 3));
        due("it stays", x.of(0, 2) + x.of(1, 2), 0);
    }

    private static void tape() {
        CHECKS.about("promises 10, 11");
        BowsOwed x = new BowsOwed();
        due("end of none", x.end(1), -1);
        due("end 0", x.end(0), 0);
        for (int i = 1; i <= 15; i++) {
            due("feed", x.feed(0x20202020, 0x20202020, 0x20202020, 0x20202020, 0x20202020), 20 * i);
        }
        due("feed 320", x.feed(1, 1, 1, 1, 1), -1);
        due("300 yet", x.about(7), 300);
        due("end 301", x.end(301), -1);
        due("end -1", x.end(-1), -1);
        due("300 still", x.about(7), 300);
        due("end 281", x.end(281), 281);
        due("feed 301", x.feed(1, 1, 1, 1, 1), -1);
        due("end 280", x.end(280), 280);
        due("feed 300", x.feed(0x66656173, 0x743b2020, 0, 0, 0), 300);
        due("end 286", x.end(286), 286);
        due("a feast behind 280 blanks", x.text(), 0);
        due("played", x.played(0), -1);
        due("a feast", x.about(6), 1);
        // 0xe9 is a byte above 127, the highest of its number.
        x.feed(0xe9202020, 0, 0, 0, 0);
        x.end(4);
        due("byte 233", x.text(), -1);
        due("can't stand", x.fault(0) * 10 + x.fault(1), 10);
        x.feed(0x66656173, 0x743b2020, 0x20202020, 0x20202020, 0x202020ff);
        due("the last byte", x.text(), -1);
        due("is the lowest of the fifth", x.fault(1), 19);
    }

    private static void text() {
        CHECKS.about("promise 12");
        BowsOwed x = new BowsOwed();
        due("without bytes", x.text(), 0);
        due("blanks", Towns.tell(x, " \n "), 1);
        due("with a fault", Towns.tell(x, "feast"), -1);
        due("the tape is empty", x.about(7), 0);
        due("third", Towns.tell(x, "feast;"), 2);
        due("fourth", Towns.tell(x, "one 1 back 2 at 3;"), 3);
        due("tape", x.about(7), 0);
        Towns.put(x, "late;");
        due("a fifth", x.text(), -1);
        due("the tape stays", x.about(7), 5);
        due("it isn't read", x.fault(0), 0);
        due("texts", x.about(4), 4);
        due("played by the fourth", x.played(3), -1);
        due("as told", x.of(0, 0) * 100 + x.of(0, 1) * 10 + x.of(0, 2), 123);
    }

    private static void faultsByToken() {
        CHECKS.about("promise 13: 1, 5");
        BowsOwed x = new BowsOwed();
        Towns.tell(x, "feast;walk");
        due("kind", x.fault(0), 1);
        due("place", x.fault(1), 10);
        due("2", x.fault(2), -1);
        due("-1", x.fault(-1), -1);
        Towns.tell(x, "feast;");
        due("without", x.fault(0), 0);
        due("no place", x.fault(1), -1);

        fault("feast", 1, 5);
        fault("feast  \n", 1, 8);
        fault("feast;;", 1, 6);
        fault("feast 1;", 1, 6);
        fault("Feast;", 1, 0);
        fault("feasts;", 1, 0);
        fault("feas;", 1, 0);
        fault("sizeA 1;", 1, 0);
        fault("sizeZ 1;", 1, 0);
        fault("size@1;", 1, 4);
        fault("size[1;", 1, 4);
        fault("size`1;", 1, 4);
        fault("size{1;", 1, 4);
        fault("size/1;", 1, 4);
        fault("size:1;", 1, 4);
        fault("late1;", 0, -1);
        fault("hour1;hour2;", 0, -1);
        fault("\tfeast;", 1, 0);
        fault("feast\r;", 1, 5);
        fault("feast;\u0000", 1, 6);
        fault("feast;!", 1, 6);
        fault("day 1;", 1, 0);
        fault("back 1;", 1, 0);
        fault("1;", 1, 0);
        fault("size;", 1, 4);
        fault("size 1", 1, 6);
        fault("size 1 2;", 1, 7);
        fault("size 1+;", 1, 7);
        fault("size 1+*2;", 1, 7);
        fault("size +1;", 1, 5);
        fault("size (1;", 1, 7);
        fault("size 1);", 1, 6);
        fault("size ();", 1, 6);
        fault("size 1<2;", 1, 6);
        fault("size to;", 1, 5);
        fault("size more;", 1, 5);
        fault("size at;", 1, 5);
        fault("size not 1=1;", 1, 5);
        fault("size owed 1 2;", 1, 12);
        fault("size owed 1 to;", 1, 14);
        fault("size owed 1 to 2;", 0, -1);
        fault("size owed 1*2 to 2;", 1, 11);
        fault("size if 1=1 then 2 else 3;", 1, 25);
        fault("size if 1=1 then 2 end;", 1, 19);
        fault("size if 1 then 2 else 3 end;", 1, 10);
        fault("size if 1=2=3 then 2 else 3 end;", 1, 11);
        fault("size if 1=1 and 2 then 2 else 3 end;", 1, 18);
        fault("size if (1=1) then 2 else 3 end;", 1, 10);
        fault("size if 1< =2 then 3 else 4 end;", 1, 11);
        fault("size if 1=<2 then 3 else 4 end;", 1, 10);
        fault("size if 1<>2 then 3 else 4 end;", 1, 10);
        fault("size if not 1 then 3 else 4 end;", 1, 14);
        fault("size if 1<=2 then 3 else 4 end;", 0, -1);
        fault("one 1 at 1;", 1, 6);
        fault("one 1 back 1 to 1;", 1, 13);
        fault("one who back 1 at 1;", 1, 4);
        fault("bow 1;", 1, 5);
        fault("bow (1) to 2;", 1, 4);
        fault("bow -1 to 2;", 1, 4);
        fault("owe 1 to 2;", 1, 10);
        fault("owe 1 to 2 to 3;", 1, 11);
        fault("clear 1 and 2;", 1, 13);
        fault("clear 1 to 2 and 3;", 1, 8);
        fault("walk;", 1, 4);
        fault("retreat 1 -1;", 1, 10);
        fault("hour;", 1, 4);
        foreignNames();
    }

    private static void foreignNames() {
        String[] laws = {"size", "more", "late", "ruin"};
        String[] names = {"day", "hour", "who", "age", "back", "whom", "other", "owes", "due", "given"};
        String[] of = {"1111111110", "1111011001", "1111011100", "1111100000"};
        for (int law = 0; law < 4; law++) {
            for (int name = 0; name < names.length; name++) {
                boolean its = of[law].charAt(name) == '1';
                fault(laws[law] + " 1+" + names[name] + ";", its ? 0 : 5, its ? -1 : 7);
            }
        }
        fault("ruin 1 due;", 1, 7);
        fault("more if 1=1 then back else 1 end;", 5, 17);
    }

    private static void faultsByNumber() {
        CHECKS.about("promise 13: 2");
        fault("size 9999;", 0, -1);
        fault("size 10000;", 2, 5);
        fault("size 0009999;", 0, -1);
        fault("size 99999999999999999999;", 2, 5);
        fault("size 18446744073709551617;", 2, 5);
        fault("size 1 10000;", 1, 7);
        fault("one 99 back 99 at 7;", 0, -1);
        fault("one 100 back 99 at 7;", 2, 4);
        fault("one 99 back 100 at 7;", 2, 12);
        fault("one 99 back 99 at 8;", 2, 18);
        fault("bow 6 to 6;", 0, -1);
        fault("bow 7 to 6;", 2, 4);
        fault("bow 6 to 7;", 2, 9);
        fault("owe 6 to 6 of 9999;", 0, -1);
        fault("owe 7 to 6 of 9999;", 2, 4);
        fault("owe 6 to 7 of 9999;", 2, 9);
        fault("owe 6 to 6 of 10000;", 2, 14);
        fault("walk 6;", 0, -1);
        fault("walk 7;", 2, 5);
        fault("retreat 6;", 0, -1);
        fault("retreat 7;", 2, 8);
        fault("clear 6 and 6 and 6;", 0, -1);
        fault("clear 7 and 6 and 6;", 2, 6);
        fault("clear 6 and 7 and 6;", 2, 12);
        fault("clear 6 and 6 and 7;", 2, 18);
        fault("hour 0;", 2, 5);
        fault("hour 1;", 0, -1);
        fault("hour 60;", 0, -1);
        fault("hour 61;", 2, 5);
        fault("hour 10000;", 2, 5);
        fault("feast 10000;", 1, 6);
    }

    private static void faultsByDepthAndCount() {
        CHECKS.about("promise 13: 3, 4, 6");
        fault("size " + Towns.times("(", 8) + "1" + Towns.times(")", 8) + ";", 0, -1);
        fault("size " + Towns.times("(", 9) + "1" + Towns.times(")", 9) + ";", 3, 13);
        fault("size " + Towns.times("-", 8) + "1;", 0, -1);
        fault("size " + Towns.times("-", 9) + "1;", 3, 13);
        fault("size " + Towns.times("owed ", 8) + Towns.times("1 to 1 ", 1) + Towns.times("to 1 ", 7) + ";", 0, -1);
        fault("size " + Towns.times("owed ", 9) + "1;", 3, 45);
        fault("size if " + Towns.times("not ", 7) + "1=1 then 2 else 3 end;", 0, -1);
        fault("size if " + Towns.times("not ", 8) + "1=1 then 2 else 3 end;", 3, 36);
        fault("size if 1=1 then " + Towns.times("(", 8) + "1;", 3, 24);
        fault("size if 1=1 then 1 else " + Towns.times("(", 8) + "1;", 3, 31);
        fault("size owed " + Towns.times("-", 7) + "1 to " + Towns.times("-", 7) + "1;", 0, -1);
        fault("size owed 1 to " + Towns.times("-", 8) + "1;", 3, 22);
        fault("size (1)+" + Towns.times("(", 8) + "1" + Towns.times(")", 8) + ";", 0, -1);
        fault("size -1--1-" + Towns.times("-", 8) + "1;", 0, -1);
        fault("size if " + Towns.times("if 1=1 then 1 else 2 end=1 and ", 3)
            + "1=1 then 1 else 2 end;", 0, -1);
        fault("size " + Towns.times("(", 8) + "if 1=1 then 1 else 2 end;", 3, 13);
        fault("size " + Towns.times("(", 8) + "not 1;", 1, 13);
        fault("size " + Towns.times("(", 8) + "10000;", 2, 13);
        fault("more " + Towns.times("(", 8) + "back;", 5, 13);

        fault("size 1;size 2;", 4, 7);
        fault("more 1;late 1;more 2;", 4, 14);
        fault("late 1;late", 4, 7);
        fault("ruin 1;feast;ruin !", 4, 13);
        fault("size 1;more 1;late 1;ruin 1;", 0, -1);

        fault(Towns.times("feast;", 24), 0, -1);
        fault(Towns.times("feast;", 25), 6, 144);
        fault(Towns.times("feast;", 24) + " size 1;", 6, 145);
        fault("late 1;" + Towns.times("feast;", 23) + "late 1;", 4, 145);
        fault(Towns.times("feast;", 24) + "due;", 1, 144);
        fault(Towns.times("feast;", 24) + "\n", 0, -1);
    }

    private static void by() {
        CHECKS.about("promise 14");
        BowsOwed x = Towns.town(2);
        due("none such", x.by(0), false);
        due("none", x.by(-1), true);
        due("-2", x.by(-2), false);
        Towns.tell(x, "size 12;");
        Towns.tell(x, "size 34;");
        due("not yet", x.two(0, 1, 1), 1);
        due("0", x.by(0), true);
        due("the text", x.about(5), 0);
        due("rules", x.two(0, 1, 1), 12);
        due("1", x.by(1), true);
        due("rules now", x.two(0, 1, 1), 34);
        due("1 again", x.by(1), true);
        due("2", x.by(2), false);
        due("yet", x.about(5), 1);
        due("none again", x.by(-1), true);
        due("none rules", x.two(0, 1, 1), 1);
        due("no step", x.about(6), 0);
    }

    private static void sums() {
        CHECKS.about("texts: sums");
        sum("1+2*3", 7);
        sum("(1+2)*3", 9);
        sum("20-5-3", 12);
        sum("100/7/2", 7);
        sum("7/2*2", 6);
        sum("2*7/2", 7);
        sum("10-7/2", 7);
        sum("10+-7/2", 7);
        sum("10+(0-7)/2", 7);
        sum("10--7/2", 13);
        sum("5/0+3", 3);
        sum("5/(2-2)*9+4", 4);
        sum("-5", 0);
        sum("--5", 5);
        sum("9999+1", 9999);
        sum("9999*9999/1000", 1000);
        sum("9999*9999*9999/1000", 1000);
        sum("1000+-9999*9999/1000", 0);
        sum("2000+-9999*9999/1000", 1000);
        sum("9999*9999+9999-100*100*100", 0);
        sum("9999*9999+9999-100*100*100+1", 1);
        sum("9+((0-9999)*9999-9999+100*100*100)", 9);
        sum("9+((0-9999)*9999-9999+100*100*100-7)", 2);
        sum("100*100*100*100*100/100", 9999);
        sum("100*100*100*2/1000", 1000);
        sum("9999*9999/(0-1)/(0-1000)", 1000);
        sum("owed 0 to 1", 7);
        sum("owed 1 to 0", 0);
        sum("owed 2 to 0*2", 18);
        sum("1+owed (1+1) to (1-1)", 10);
        sum("1+owed 1 to 1", 1);
        sum("1+owed 6 to 1", 1);
        sum("1+owed 0 to 3", 1);
        sum("1+owed -1 to 1", 1);
        sum("1+owed 0 to 9999", 1);
        sum("1+owed owed 1 to 0 to 1", 8);
        sum("1+owed 0 to owed 0 to 1", 1);
        sum("given", 40);
        sum("given+age/10+other", 95);
        sum("who*10+whom", 10);
    }

    private static void conditions() {
        CHECKS.about("texts: conditions");
        String[] signs = {"<", "<=", ">", ">=", "=", "#"};
        String[] so = {"100", "110", "001", "011", "010", "101"};
        for (int i = 0; i < signs.length; i++) {
            for (int k = 0; k < 3; k++) {
                boolean is = so[i].charAt(k) == '1';
                String ask = k + signs[i] + "1";
                sum("if " + ask + " then 5 else 6 end", is ? 5 : 6);
                sum("if not " + ask + " then 5 else 6 end", is ? 6 : 5);
                sum("if 1=1 and " + ask + " then 5 else 6 end", is ? 5 : 6);
                sum("if 1=2 or " + ask + " then 5 else 6 end", is ? 5 : 6);
            }
        }
        sum("if 1=1 or 1=1 and 1=2 then 5 else 6 end", 5);
        sum("if 1=2 and 1=2 or 1=1 then 5 else 6 end", 5);
        sum("if 1=2 or 1=2 then 5 else 6 end", 6);
        sum("if 1=2 or 1=1 then 5 else 6 end", 5);
        sum("if 1=1 and 1=2 then 5 else 6 end", 6);
        sum("if 1=1 and 2=2 and 3=3 then 5 else 6 end", 5);
        sum("if not 1=2 then 5 else 6 end", 5);
        sum("if not not 1=2 then 5 else 6 end", 6);
        sum("if not 1=2 and 1=2 then 5 else 6 end", 6);
        sum("if not 1=1 or 1=1 then 5 else 6 end", 5);
        sum("1+if 1=1 then 5 else 6 end*2", 11);
        sum("1+if 1=2 then 5 else 6+1 end*2", 15);
        sum("if 1=2 then 5 else if 1=2 then 6 else 7 end end", 7);
        sum("if if 1=1 then 2 else 3 end=2 then if 2=2 then 8 else 9 end else 7 end", 8);
        sum("if 0-1<0 then -1+10 else 3 end", 9);
    }

    private static void names() {
        CHECKS.about("texts: names");
        BowsOwed x = new BowsOwed();
        x.person(11, 22, 0);
        x.person(33, 44, 0);
        x.owe(0, 1, 5);
        x.owe(1, 0, 6);
        x.hour(23);
        x.bow(0, 1);
        String[] names = {"day", "hour", "who", "age", "back", "whom", "other", "owes", "due"};
        int[] want = {2, 3, 0, 11, 2, 1, 33, 0, 24};
        for (int i = 0; i < names.length; i++) {
            BowsOwed y = new BowsOwed();
            y.person(11, 22, 0);
            y.person(33, 44, 0);
            y.owe(0, 1, 5);
            y.owe(1, 0, 6);
            y.hour(23);
            y.bow(0, 1);
            ruled(y, "size 1+" + names[i] + ";");
            due("size " + names[i], y.two(0, 1, 1), 1 + want[i]);
        }
        due("as without laws", x.of(0, 3), 2);
        due("who and whom of the other one", sized(x, "10*who+whom"), 10);
        due("age and other", sized(x, "age-other"), 22);
        due("owes and due", sized(x, "owes-due"), 24);
    }

    /** The size that the second one of two has by a sum. */
    private static int sized(BowsOwed x, String sum) {
        Towns.tell(x, "size " + sum + ";");
        x.by(x.about(4) - 1);
        int size = x.two(1, 0, 1);
        x.by(-1);
        return size;
    }

    private static void lawBounds() {
        CHECKS.about("texts: bounds of laws");
        BowsOwed x = Towns.town(2);
        due("size without", x.two(0, 1, 1), 1);
        x.owe(0, 1, 99);
        due("size 99", x.two(0, 1, 1), 99);
        x.owe(0, 1, 6000);
        due("size of 6000", x.two(0, 1, 1), 99);
        due("late of 6000", x.two(0, 1, 2), 9999);
        x.owe(0, 1, 4999);
        due("late of 4999", x.two(0, 1, 2), 9998);
        due("ruin without", x.of(0, 7), 300);
        ruled(x, "size 0-5;more 0-5;late 0-5;ruin 0-5;");
        due("size below", x.two(0, 1, 1), 1);
        due("more below", x.more(0, 1, 5), 0);
        due("late below", x.two(0, 1, 2), 0);
        due("ruin below", x.of(0, 7), 0);
        ruled(x, "size 100;more 9999+1;late 9999+1;ruin 9999+1;");
        due("size above", x.two(0, 1, 1), 99);
        due("more above", x.more(0, 1, 5), 9999);
        due("late above", x.two(0, 1, 2), 9999);
        due("ruin above", x.of(0, 7), 9999);
    }

    private static void nightInOrder() {
        CHECKS.about("an hour: in order");
        BowsOwed x = Towns.town(3);
        for (int i = 0; i < 3; i++) {
            x.owe(i, (i + 1) % 3, 1);
            x.owe(i, (i + 2) % 3, 1);
        }
        // Each is what 0 owes 1 by then, and 1.
        ruled(x, "late owed 0 to 1+owed 0 to 2+1;");
        x.hour(10);
        due("0 to 1 first", x.two(0, 1, 0), 3);
        due("0 to 2 then", x.two(0, 2, 0), 5);
        due("1 to 0 then", x.two(1, 0, 0), 9);
        due("1 to 2", x.two(1, 2, 0), 9);

        x = Towns.town(2);
        x.owe(0, 1, 10);
        x.owe(1, 0, 11);
        ruled(x, "late owes; ruin owed 0 to 1;");
        due("by numbers", x.hour(10), 1);
        due("10 isn't above itself", x.of(0, 4), 0);
        due("11 is", x.of(1, 4), 3);

        x = Towns.town(2);
        x.owe(0, 1, 10);
        x.owe(1, 0, 10);
        ruled(x, "late owes; ruin 5+9*who*owed 0 to 1;");
        due("what 0 owed is gone when 1 is asked", x.hour(10), 2);

        x = Towns.town(2);
        x.owe(0, 1, 1);
        ruled(x, "late 1000*day+hour+10; ruin 2000;");
        x.hour(10);
        due("the new day's hour 0", x.two(0, 1, 0), 1010);

        x = Towns.town(2);
        x.bow(0, 1);
        x.owe(0, 1, 99);
        ruled(x, "late owes; ruin back;");
        due("its back again when ruin is asked", x.hour(10), 0);
        x.bow(1, 0);
        due("ruin now by what is left", x.of(1, 7), 97);
    }

    private static void played() {
        CHECKS.about("promise 15");
        BowsOwed x = new BowsOwed();
        due("none such", x.played(0), -2);
        due("NONE", x.played(-1), -2);
        int text = Towns.tell(x, "size 5;one 1 back 90 at 7;one 3 back 90 at 7;bow 0 to 1;more 1;"
            + "owe 1 to 0 of 70;walk 0;retreat 1;hour 12;feast;");
        due("all", x.played(text), -1);
        due("laws do nothing", x.about(5), -1);
        due("place", x.of(0, 2), 0);
        due("retreat", x.of(1, 2), 6);
        due("hours", x.about(1) * 10 + x.about(2), 12);
        due("steps", x.about(6), 17);
        due("feast", x.of(1, 5), 0);
        due("two more told", x.played(text), 3);
        due("they are there", x.about(0), 4);
        due("steps", x.about(6), 17);
        due("bow", x.played(Towns.tell(x, "late 1;bow 3 to 3;")), 1);
        due("owe", x.played(Towns.tell(x, "owe 3 to 2 of 0;")), 0);
        x = Towns.town(3);
        x.owe(1, 2, 5);
        x.owe(2, 0, 6);
        x.owe(0, 1, 7);
        due("clear", x.played(Towns.tell(x, "clear 1 and 2 and 0;")), -1);
        due("by the least", x.two(1, 2, 0) * 100 + x.two(2, 0, 0) * 10 + x.two(0, 1, 0), 12);
        x = Towns.town(3);
        due("walk", x.played(Towns.tell(x, "walk 2;walk 3;walk 1;")), 1);
        due("what was done stays", x.of(2, 2) * 10 + x.of(1, 2), 10);
        due("clear", x.played(Towns.tell(x, "feast;clear 0 and 1 and 2;")), 1);
        int cleared = Towns.tell(x, "retreat 2;owe 0 to 1 of 4;owe 1 to 2 of 4;owe 2 to 0 of 5;"
            + "clear 0 and 1 and 2;retreat 5;");
        due("cleared", x.played(cleared), 5);
        due("by 4", x.of(2, 5) + x.of(0, 5), 1);
        for (int i = 0; i < 4; i++) {
            x.person(1, 1, 1);
        }
        due("an 8th", x.played(Towns.tell(x, "one 1 back 1 at 1;")), 0);
        due("4", x.played(4), -2);
    }

    private static void undo() {
        CHECKS.about("promise 16");
        BowsOwed x = Towns.town(3);
        due("none", x.undo(), -1);
        x.owe(0, 1, 40);
        x.walk(2, 1);
        x.person(9, 9, 5);
        x.owe(3, 0, 7);
        x.owe(0, 3, 8);
        x.walk(3, 1);
        x.bow(0, 1);
        due("bow", x.undo(), 5);
        due("left", x.of(0, 3), 99);
        due("owes", x.two(0, 1, 0), 40);
        due("walk", x.undo(), 4);
        due("place", x.of(3, 2), 5);
        x.walk(3, 1);
        x.undo();
        x.undo();
        x.undo();
        due("owes nothing", x.of(3, 5) + x.of(3, 6), 0);
        x.walk(3, -1);
        due("ahead of a walk", x.undo(), 2);
        due("walk of 2", x.undo(), 1);
        due("stays as told", x.of(3, 2), 5);
        due("2 is back", x.of(2, 2), 0);
        due("first", x.undo(), 0);
        due("none any more", x.undo(), -1);
        due("people stay", x.about(0), 4);

        x = Towns.town(2);
        x.owe(0, 1, 500);
        x.hour(10);
        x.person(7, 77, 7);
        x.walk(2, 1);
        x.owe(2, 0, 9);
        for (int i = 0; i < 3; i++) {
            x.undo();
        }
        due("ahead of night", x.about(2), 9);
        due("day", x.about(1), 0);
        due("book", x.book(-1, 0), 0);
        due("indoors", x.of(0, 4), 0);
        due("owes", x.of(0, 5), 500);
        due("told since: place", x.of(2, 2), 7);
        due("told since: left", x.of(2, 3), 77);
        due("told since: owes", x.of(2, 5), 0);

        x = Towns.town(2);
        for (int i = 0; i < 35; i++) {
            x.owe(0, 1, 100 + i);
        }
        due("30 at most", x.about(6), 30);
        for (int i = 29; i >= 0; i--) {
            due("undo", x.undo(), i);
            due("what was", x.two(0, 1, 0), 104 + i);
            if (i == 15) {
                x.by(-1);
                x.neck(0, 5);
            }
        }
        due("the 31st", x.undo(), -1);
        x.weeks(7, 30);
        x.undo();
        due("x", x.about(3), 97);
        due("hour", x.about(2), 0);
    }

    private static void of() {
        CHECKS.about("promise 17");
        BowsOwed x = new BowsOwed();
        x.person(12, 34, 5);
        x.person(56, 78, 5);
        x.person(56, 78, 5);
        x.owe(0, 1, 3);
        x.owe(0, 2, 4);
        x.owe(1, 0, 10);
        x.owe(2, 0, 20);
        x.bow(0, 1);
        int[] want = {12, 34, 5, 31, 0, 4, 30, 300};
        for (int what = 0; what < 8; what++) {
            due("of 0 " + what, x.of(0, what), want[what]);
        }
        due("of 0 8", x.of(0, 8), -1);
        due("of 0 -1", x.of(0, -1), -1);
        due("of 3", x.of(3, 0), -1);
        due("of -1", x.of(-1, 0), -1);
        ruled(x, "ruin 10*age+back+who;");
        due("ruin now", x.of(0, 7), 151);
        due("of 2", x.of(2, 7), 640);
    }

    private static void two() {
        CHECKS.about("promise 18");
        BowsOwed x = Towns.town(3);
        x.owe(0, 1, 12);
        x.walk(2, 1);
        due("owes", x.two(0, 1, 0), 12);
        due("size", x.two(0, 1, 1), 12);
        due("late", x.two(0, 1, 2), 24);
        due("meet", x.two(0, 1, 3), 1);
        due("elsewhere", x.two(0, 2, 3), 0);
        due("size for one elsewhere", x.two(0, 2, 1), 1);
        due("late of nothing", x.two(1, 0, 2), 0);
        due("4", x.two(0, 1, 4), -1);
        due("-1", x.two(0, 1, -1), -1);
        due("itself", x.two(1, 1, 0), -1);
        due("nobody", x.two(0, 3, 0), -1);
        due("by nobody", x.two(-1, 0, 0), -1);
        ruled(x, "late 77; size 5*who+whom;");
        due("late by law", x.two(0, 1, 2), 77);
        due("late of nothing by law", x.two(1, 0, 2), 0);
        due("size by law", x.two(2, 1, 1), 11);
        x.owe(0, 1, 4000);
        x.by(-1);
        x.hour(10);
        due("indoors", x.two(0, 1, 3) + x.two(1, 0, 3), 0);
    }

    private static void more() {
        CHECKS.about("promise 19");
        BowsOwed x = Towns.town(2);
        due("0", x.more(0, 1, 0), 1);
        due("9", x.more(0, 1, 9), 10);
        due("10", x.more(0, 1, 10), 12);
        due("9089", x.more(0, 1, 9089), 9998);
        due("9090, 9999 at most", x.more(0, 1, 9090), 9999);
        due("9999, 9999 at most", x.more(0, 1, 9999), 9999);
        due("10000", x.more(0, 1, 10000), -1);
        due("-1", x.more(0, 1, -1), -1);
        due("itself", x.more(1, 1, 1), -1);
        due("nobody", x.more(0, 2, 1), -1);
        due("by nobody", x.more(-1, 0, 1), -1);
        ruled(x, "more 100*who+10*whom+given;");
        due("by law", x.more(1, 0, 5), 105);
        due("the other way", x.more(0, 1, 5), 15);
    }

    private static void book() {
        CHECKS.about("promise 20");
        BowsOwed x = Towns.town(3);
        due("none", x.book(-1, 0), 0);
        due("0 of none", x.book(0, 0), -2);
        x.owe(1, 0, 200);
        x.owe(1, 2, 300);
        x.owe(0, 1, 160);
        x.hour(10);
        x.owe(2, 1, 152);
        x.hour(10);
        int[][] want = {{1, 0, 320}, {1, 1, 1000}, {2, 2, 304}};
        due("three", x.book(-1, 0), 3);
        for (int i = 0; i < 3; i++) {
            for (int what = 0; what < 3; what++) {
                due("book " + i + " " + what, x.book(i, what), want[i][what]);
            }
        }
        due("3", x.book(3, 0), -2);
        due("-2", x.book(-2, 0), -2);
        due("what 3", x.book(0, 3), -2);
        due("what -1", x.book(0, -1), -2);

        x = Towns.town(2);
        for (int i = 0; i < 33; i++) {
            x.owe(0, 1, 200 + i);
            x.hour(10);
        }
        due("30 at most", x.book(-1, 0), 30);
        due("the eldest", x.book(0, 2), 406);
        due("its day", x.book(0, 0), 4);
        due("the latest", x.book(29, 2), 464);
        due("31st", x.book(30, 0), -2);
        x.undo();
        due("the eldest is back", x.book(0, 2), 404);
        due("30 yet", x.book(-1, 0), 30);
    }

    private static void foretold() {
        CHECKS.about("promise 21");
        BowsOwed x = Towns.town(3);
        x.owe(0, 1, 20);
        x.owe(0, 2, 30);
        x.hour(5);
        due("4 hours", x.foretold(4, 0, 1), 20);
        due("5 hours", x.foretold(5, 0, 1), 40);
        due("together", x.foretold(5, 0, -1), 100);
        due("15 hours", x.foretold(15, 0, -1), 200);
        due("25 hours", x.foretold(25, 0, -1), 0);
        due("nothing done", x.of(0, 5), 50);
        due("nor passed", x.about(2), 5);
        due("nor a step", x.about(6), 7);
        due("0", x.foretold(0, 0, 1), -2);
        due("61", x.foretold(61, 0, 1), -2);
        due("60", x.foretold(60, 1, 0), 0);
        due("itself", x.foretold(5, 0, 0), -2);
        due("nobody", x.foretold(5, 3, 0), -2);
        due("to nobody", x.foretold(5, 0, 3), -2);
        due("to -2", x.foretold(5, 0, -2), -2);
        due("nobody together", x.foretold(5, 3, -1), -2);
        ruled(x, "late owes+day; ruin 9999;");
        due("by the text", x.foretold(60, 0, 1), 20 + 1 + 2 + 3 + 4 + 5 + 6);
    }

    private static void indoors() {
        CHECKS.about("promise 22");
        BowsOwed x = Towns.town(2);
        x.owe(0, 1, 100);
        due("10", x.indoors(10, 0), 0);
        due("20", x.indoors(20, 0), 3);
        due("30", x.indoors(30, 0), 2);
        due("60", x.indoors(60, 0), 0);
        due("1", x.indoors(20, 1), 0);
        due("0", x.indoors(0, 0), -2);
        due("61", x.indoors(61, 0), -2);
        due("nobody", x.indoors(1, 2), -2);
        due("-1", x.indoors(1, -1), -2);
        due("nothing done", x.of(0, 4), 0);
    }

    private static void first() {
        CHECKS.about("promise 23");
        BowsOwed x = Towns.town(4);
        due("none", x.first(60), -1);
        x.owe(1, 0, 100);
        x.owe(3, 0, 200);
        x.owe(2, 0, 200);
        due("9", x.first(9), -1);
        due("the lowest of the first night", x.first(10), 2);
        due("not 1 later", x.first(60), 2);
        due("0", x.first(0), -1);
        due("61", x.first(61), -1);
        x.hour(10);
        due("written down ahead of these hours is not first", x.first(10), 1);
        due("book as it was", x.book(-1, 0), 2);
        ruled(x, "late owes;");
        due("by the text", x.first(60), -1);
    }

    private static void whose() {
        CHECKS.about("promise 24");
        BowsOwed x = Towns.town(3);
        x.owe(0, 1, 100);
        x.owe(1, 2, 200);
        due("no text", x.whose(60), -1);
        Towns.tell(x, "late 400;");
        due("the only one", x.whose(60), 0);
        Towns.tell(x, "ruin 350;");
        due("one less in 10 hours", x.whose(10), 1);
        due("both ruin both in 60, the lowest", x.whose(60), 0);
        Towns.tell(x, "late owes;");
        Towns.tell(x, "late owes-1;");
        due("the lowest of the best", x.whose(60), 2);
        x.by(3);
        due("whoever rules", x.whose(60), 2);
        due("all alike in 9", x.whose(9), 0);
        due("0", x.whose(0), -1);
        due("61", x.whose(61), -1);
        due("the text stays", x.about(5), 3);
    }

    private static void way(BowsOwed x, int one, int... way) {
        due("steps of " + one, x.route(one, -1), way.length);
        for (int i = 0; i < way.length; i++) {
            due("step " + i, x.route(one, i), way[i]);
        }
        due("behind the last", x.route(one, way.length), -2);
        due("-2", x.route(one, -2), -2);
    }

    private static void route() {
        CHECKS.about("promise 25");
        BowsOwed x = Towns.ring(0, 2, 6, 4);
        way(x, 0);
        x.owe(0, 1, 1);
        way(x, 0, 1, 1);
        x.owe(0, 2, 1);
        way(x, 0, 1, 1, -1, -1, -1, -1);
        x.owe(0, 3, 1);
        way(x, 0, 1, 1, 1, 1, 1, 1);
        x.owe(0, 1, 0);
        way(x, 0, -1, -1, -1, -1);
        due("nobody", x.route(4, -1), -2);
        due("-1", x.route(-1, -1), -2);

        x = Towns.ring(0, 3, 1, 5);
        x.owe(0, 1, 5);
        noWay(x, 0);
        x = Towns.ring(0, 4);
        x.owe(0, 1, 5);
        way(x, 0, 1, 1, 1, 1);
        x = Towns.ring(0, 5, 7);
        x.owe(0, 1, 5);
        way(x, 0, 1, 1, 1, 1, 1);
        x = Towns.ring(0, 5, 5, 0);
        x.owe(0, 1, 5);
        way(x, 0, -1, -1, -1);
        x = Towns.ring(0, 0);
        x.owe(0, 1, 5);
        way(x, 0);
        routeAtStart();
    }

    private static void noWay(BowsOwed x, int one) {
        due("no way of " + one, x.route(one, -1), -2);
        due("nor a first step", x.route(one, 0), -2);
    }

    private static void routeAtStart() {
        // With somebody at its own place whom it owes nothing it can't come back there.
        BowsOwed x = Towns.ring(0, 0, 1, 7);
        x.owe(0, 2, 1);
        x.owe(0, 3, 1);
        way(x, 0, 1, 1, 1, 1, 1, 1, 1);
        // Shut in on both sides it turns once: 3 and back, and 3 more.
        x = Towns.ring(0, 4, 3, 5);
        x.owe(0, 2, 1);
        x.owe(0, 3, 1);
        way(x, 0, 1, 1, 1, -1, -1, -1, -1, -1, -1);
        x = Towns.ring(0, 5, 4, 6);
        x.owe(0, 2, 1);
        x.owe(0, 3, 1);
        way(x, 0, -1, -1, 1, 1, 1, 1, 1, 1);
        x = Towns.ring(0, 0, 1, 7, 4);
        x.owe(0, 2, 1);
        x.owe(0, 3, 1);
        noWay(x, 0);
        // One indoors is neither met nor shunned.
        x = Towns.ring(0, 1, 2);
        x.owe(1, 0, 301);
        x.hour(10);
        x.owe(0, 1, 5);
        way(x, 0);
        x.owe(0, 2, 5);
        way(x, 0, 1, 1);
        due("one indoors itself", x.route(1, -1), -2);
    }

    private static void settled() {
        CHECKS.about("promise 26");
        BowsOwed x = Towns.town(0);
        due("nobody", x.settled(false), 0);
        due("no sets", x.settled(true), 0);
        x = Towns.town(5);
        due("all even", x.settled(false), 0);
        due("one by one", x.settled(true), 5);
        x.owe(0, 1, 5);
        due("two", x.settled(false), 1);
        due("4 sets", x.settled(true), 4);
        x.owe(2, 3, 5);
        due("two twos", x.settled(false), 2);
        due("3 sets", x.settled(true), 3);
        x.owe(1, 2, 5);
        due("a chain: its ends alone", x.settled(false), 1);
        due("4 sets again", x.settled(true), 4);
        x.owe(3, 0, 5);
        due("a ring is even", x.settled(false), 0);
        x = Towns.town(7);
        x.owe(0, 6, 1);
        x.owe(1, 6, 2);
        x.owe(2, 6, 4);
        x.owe(3, 5, 8);
        x.owe(4, 5, 16);
        due("three and four", x.settled(false), 5);
        due("2 sets", x.settled(true), 2);
        x.owe(4, 6, 9999);
        due("all in one", x.settled(false), 6);
    }

    private static void lane(String args, BowsOwed x, int step, int first, int second) {
        String[] parts = args.split(" ");
        int[] v = new int[5];
        for (int i = 0; i < 5; i++) {
            v[i] = Integer.parseInt(parts[i]);
        }
        due("step of " + args, x.lane(v[0], v[1], v[2], v[3], v[4], 0), step);
        due("first of " + args, x.lane(v[0], v[1], v[2], v[3], v[4], 1), first);
        due("second of " + args, x.lane(v[0], v[1], v[2], v[3], v[4], 2), second);
        due("what 3", x.lane(v[0], v[1], v[2], v[3], v[4], 3), -1);
        due("what -1", x.lane(v[0], v[1], v[2], v[3], v[4], -1), -1);
    }

    private static void lane() {
        CHECKS.about("promise 27");
        BowsOwed x = new BowsOwed();
        lane("1 10 0 3 10", x, 0, 10, 3);
        lane("1 10 0 3 9", x, 1, 9, 9);
        lane("2 10 0 3 10", x, 1, 3, 10);
        lane("2 10 5 12 14", x, 0, 10, 12);
        lane("2 10 5 12 15", x, 1, 7, 15);
        lane("3 0 2 4 5", x, 0, 0, 4);
        lane("3 5 2 4 9", x, 0, 5, 4);
        lane("20 99 99 999 9999", x, 0, 99, 999);
        lane("20 0 0 0 0", x, 0, 0, 0);
        lane("4 1 0 0 1", x, 1, 0, 1);
        int[][] wrong = {{0, 1, 1, 1, 1}, {21, 1, 1, 1, 1}, {1, -1, 1, 1, 1}, {1, 100, 1, 1, 1},
            {1, 1, -1, 1, 1}, {1, 1, 100, 1, 1}, {1, 1, 1, -1, 1}, {1, 1, 1, 1000, 1},
            {1, 1, 1, 1, -1}, {1, 1, 1, 1, 10000}};
        for (int[] w : wrong) {
            due("wrong lane", x.lane(w[0], w[1], w[2], w[3], w[4], 0), -1);
        }
    }

    private static void doors(BowsOwed x, int sum, int... order) {
        due("sum", x.doors(-1), sum);
        for (int i = 0; i < order.length; i++) {
            due("door " + i, x.doors(i), order[i]);
        }
        due("behind the last", x.doors(order.length), -1);
        due("-2", x.doors(-2), -1);
    }

    private static void doors() {
        CHECKS.about("promise 28");
        doors(Towns.town(0), 0);
        doors(Towns.town(3), 0, 0, 1, 2);
        BowsOwed x = Towns.town(3);
        x.owe(0, 1, 5);
        doors(x, 0, 1, 0, 2);
        x.owe(1, 2, 4);
        doors(x, 0, 2, 1, 0);
        x.owe(2, 0, 3);
        // One of the ring must pay: least where 2 goes ahead of 0 by what it owes it.
        doors(x, 3, 2, 1, 0);
        x.owe(0, 1, 3);
        x.owe(1, 2, 3);
        doors(x, 3, 0, 2, 1);
        x = Towns.town(7);
        x.owe(0, 6, 9);
        x.owe(5, 1, 9);
        doors(x, 0, 1, 2, 3, 4, 5, 6, 0);
    }

    private static void necks() {
        CHECKS.about("promises 29 to 32");
        BowsOwed x = Towns.town(0);
        due("nobody's neck", x.neck(0, 1), false);
        due("the empty set", x.explained(), 1);
        due("corner of nobody", x.corner(), -1);
        x = Towns.town(7);
        due("all sets of ten twos", x.explained(), 1024);
        due("neck of 4", x.neck(4, 999), true);
        due("neck of 5", x.neck(5, 1), false);
        due("-1", x.neck(-1, 1), false);
        due("1000", x.neck(0, 1000), false);
        due("-2", x.neck(0, -2), false);
        due("none explains", x.explained(), 0);
        due("not sure either", x.sure(0, 1), -1);
        due("no corner", x.corner(), -1);
        due("not told any more", x.neck(4, -1), true);
        due("still not told", x.neck(4, -1), true);
        due("all again", x.explained(), 1024);
        due("corner: the lowest of like ones", x.corner(), 1);
        due("steps", x.about(6), 0);

        x = Towns.town(4);
        x.owe(0, 1, 2);
        x.owe(0, 2, 3);
        x.owe(0, 3, 5);
        due("neck of 0", x.neck(0, 5), true);
        // By 1 and 2, or by 3 alone; the three twos without 0 are free.
        due("explained", x.explained(), 16);
        due("open", x.sure(0, 1), -1);
        due("corner", x.corner(), 1);
        x.owe(1, 2, 1);
        x.neck(1, 1);
        due("1 met 2", x.sure(1, 2), 1);
        due("and the other way", x.sure(2, 1), 1);
        x.neck(1, 0);
        due("1 didn't meet 2", x.sure(2, 1), 0);
        due("8 sets", x.explained(), 8);
        x.neck(0, 10);
        due("met all", x.sure(0, 1) + x.sure(0, 2) + x.sure(0, 3), 3);
        due("corner is another one", x.corner(), 13);
        x.neck(0, 7);
        due("2 and 5", x.sure(0, 2), 0);
        due("itself", x.sure(1, 1), -1);
        due("nobody", x.sure(0, 4), -1);
        due("-1", x.sure(-1, 0), -1);
        due("as now", x.owe(0, 2, 5), true);
        due("another one", x.explained(), 8);
        due("open now", x.sure(0, 2), -1);
        due("sure of 0 and 1", x.sure(0, 1), 1);
        corners();
    }

    private static void corners() {
        BowsOwed x = Towns.town(3);
        x.owe(0, 1, 4);
        x.owe(0, 2, 0);
        x.neck(0, 4);
        due("0 and 1 met", x.sure(0, 1), 1);
        due("not in all", x.corner(), 2);
        x = Towns.town(5);
        x.owe(4, 0, 1);
        x.owe(4, 1, 1);
        x.owe(4, 2, 1);
        x.neck(4, 1);
        x.neck(3, 0);
        // One of three met 4: a third each; the others are free, so in half of the sets.
        due("three of 128", x.explained(), 3 * 128);
        due("the lowest half", x.corner(), 1);
        x = Towns.town(6);
        due("no fifth two", x.sure(0, 5), -1);
        due("34", x.sure(4, 3), -1);
        x.owe(3, 4, 1);
        x.neck(3, 1);
        due("34 met", x.sure(4, 3), 1);
        x = Towns.town(5);
        int[][] twos = {{0, 1}, {0, 2}, {0, 3}, {1, 2}, {1, 3}, {2, 3}, {1, 4}, {2, 4}, {3, 4}, {0, 4}};
        for (int i = 0; i < 9; i++) {
            x.owe(twos[i][0], twos[i][1], 1 << i);
        }
        x.neck(0, 0);
        x.neck(1, 0);
        x.neck(2, 0);
        x.neck(3, 0);
        due("0 and 4 alone are open", x.corner(), 4);
        due("in one of two", x.explained(), 2);
    }

    private static void image() {
        CHECKS.about("promises 33, 34");
        BowsOwed x = Towns.town(2);
        x.owe(0, 1, 100);
        x.hour(25);
        Towns.tell(x, "size 9;");
        x.by(0);
        x.neck(0, 3);
        due("day", x.image(), 2);
        x.hour(10);
        x.person(1, 2, 3);
        Towns.tell(x, "size 5;");
        x.by(1);
        x.neck(0, 7);
        x.weeks(5, 4);
        x.owe(1, 0, 99);
        Towns.tell(x, "size !;");
        Towns.put(x, "feast;");
        due("back", x.back(), 2);
        due("people", x.about(0), 2);
        due("hour", x.about(2), 5);
        due("x", x.about(3), 97);
        due("texts", x.about(4), 1);
        due("the text", x.about(5), 0);
        due("it rules", x.two(1, 0, 1), 9);
        due("steps", x.about(6), 26);
        due("the tape isn't back", x.about(7), 6);
        due("nor the fault", x.fault(0) * 10 + x.fault(1), 15);
        due("book", x.book(-1, 0), 1);
        due("1 owes nothing", x.of(1, 5), 0);
        x.owe(0, 1, 3);
        due("neck as it was", x.sure(0, 1), 1);
        x.undo();
        due("undo behind it", x.undo(), 25);
        due("an hour", x.about(2), 4);
        due("back again", x.back(), 2);
        due("steps again", x.about(6), 26);
        for (int i = 0; i < 26; i++) {
            x.undo();
        }
        due("steps of the image", x.about(1) + x.about(2) + x.of(0, 5), 0);
        due("another text", Towns.tell(x, "size 3;"), 1);
        x.by(1);
        due("is itself", x.two(0, 1, 1), 3);
        due("a new image", x.image(), 0);
        x.by(-1);
        due("by none", x.two(0, 1, 1), 1);
        x.back();
        due("back to the new one", x.two(0, 1, 1), 3);
    }

    /** Wrong numbers far off, each where the others are right. */
    private static void farOff(BowsOwed x) {
        CHECKS.about("wrong inputs far off");
        Towns.tell(x, "size 1;");
        int[] far = {-2147483648, -2147483647, -65536, -3, 10000, 65536, 2147483646, 2147483647};
        for (int n : far) {
            due("person " + n, x.person(n, 1, 1) + x.person(1, n, 1) + x.person(1, 1, n), -3);
            due("bow " + n, x.bow(n, 0) + x.bow(0, n) + x.bow(n, n), -3);
            due("owe " + n, x.owe(n, 0, 1) || x.owe(0, n, 1) || x.owe(0, 1, n), false);
            due("walk " + n, x.walk(n, 1) + x.walk(0, n), -2);
            due("clear " + n, x.clear(n, 0, 1) + x.clear(0, n, 1) + x.clear(0, 1, n), -3);
            due("hour " + n, x.hour(n), -1);
            due("weeks " + n, x.weeks(n, 1) + x.weeks(1, n), -2);
            due("end " + n, x.end(n), -1);
            due("fault " + n, x.fault(n), -1);
            due("by " + n, x.by(n), false);
            due("played " + n, x.played(n), -2);
            due("of " + n, x.of(n, 0) + x.of(0, n), -2);
            due("two " + n, x.two(n, 0, 0) + x.two(0, n, 0) + x.two(0, 1, n), -3);
            due("more " + n, x.more(n, 0, 0) + x.more(0, n, 0) + x.more(0, 1, n), -3);
            due("book " + n, x.book(n, 0) + x.book(0, n), -4);
            due("foretold " + n, x.foretold(n, 0, 1) + x.foretold(1, n, 0) + x.foretold(1, 0, n)
                + x.foretold(1, n, -1), -8);
            due("indoors " + n, x.indoors(n, 0) + x.indoors(1, n), -4);
            due("first " + n, x.first(n), -1);
            due("whose " + n, x.whose(n), -1);
            due("route " + n, x.route(n, -1) + x.route(0, n), -4);
            due("lane " + n, x.lane(n, 1, 1, 1, 1, 0) + x.lane(1, n, 1, 1, 1, 0)
                + x.lane(1, 1, n, 1, 1, 0) + x.lane(1, 1, 1, n, 1, 0) + x.lane(1, 1, 1, 1, n, 0)
                + x.lane(1, 1, 1, 1, 1, n), -6);
            due("doors " + n, x.doors(n), -1);
            due("neck " + n, x.neck(n, 1) || x.neck(0, n), false);
            due("sure " + n, x.sure(n, 0) + x.sure(0, n), -2);
            due("about " + n, x.about(n), -2);
            due("fed", x.feed(n, n, n, n, n), 20);
            due("and ended", x.end(0), 0);
        }
        due("no steps", x.about(6), 0);
    }

    private static void about() {
        CHECKS.about("promise 35");
        BowsOwed x = Towns.town(5);
        x.hour(13);
        x.weeks(0, 1);
        Towns.tell(x, "feast;");
        Towns.tell(x, "");
        x.by(1);
        x.feed(0, 0, 0, 0, 0);
        x.end(7);
        int[] want = {5, 1, 4, 28896, 2, 1, 14, 7};
        for (int what = 0; what < 8; what++) {
            due("about " + what, x.about(what), want[what]);
        }
        due("-1", x.about(-1), -2);
        due("8", x.about(8), -2);
    }
}
