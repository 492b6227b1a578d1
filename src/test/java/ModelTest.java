import java.util.ArrayList;
import java.util.List;
import java.util.Random;
import support.Checks;
import support.Model;
import support.Texts;

/** Draws runs of calls and asks the class and the model in turn: both are to answer alike. */
public final class ModelTest {
    private static final int RUNS = 1500;
    private static final int CALLS = 512;
    private static final int MOODS = 5;

    private final Checks checks;
    private final Random random;
    private final Texts texts;
    private final BowsOwed x = new BowsOwed();
    private final Model y = new Model();
    private final int mood;
    private int calls = 0;

    private ModelTest(Checks checks, int seed) {
        this.checks = checks;
        this.random = new Random(seed);
        this.texts = new Texts(random);
        this.mood = seed % MOODS;
    }

    public static void main(String[] args) {
        Checks checks = new Checks();
        for (int seed = 0; seed < RUNS; seed++) {
            checks.about("run " + seed);
            new ModelTest(checks, seed).run();
        }
        checks.finish();
    }

    private void due(String call, long got, long want) {
        calls++;
        checks.due(call, got, want);
    }

    private void due(String call, boolean got, boolean want) {
        due(call, got ? 1 : 0, want ? 1 : 0);
    }

    private void run() {
        if (mood == 4) {
            runLaws();
            return;
        }
        int people = random.nextInt(8);
        for (int i = 0; i < people; i++) {
            tellPerson();
        }
        while (calls < CALLS - 20) {
            int kind = random.nextInt(100);
            if (kind < 55) {
                change();
            } else if (kind < 97) {
                look();
            } else {
                askAll();
            }
        }
    }

    /** Law upon law, each asked of a few people who owe one another little. */
    private void runLaws() {
        for (int i = 0; i < 4; i++) {
            int age = random.nextInt(9);
            int back = random.nextInt(9);
            due("person", x.person(age, back, 0), y.person(age, back, 0));
        }
        due("hour", x.hour(17), y.hour(17));
        due("image", x.image(), y.image());
        while (calls < CALLS - 60) {
            due("back", x.back(), y.back());
            for (int i = 0; i < 5; i++) {
                int a = random.nextInt(4);
                int b = random.nextInt(4);
                int what = random.nextInt(9);
                due("owe", x.owe(a, b, what), y.owe(a, b, what));
            }
            String text = texts.laws();
            tellText(text);
            due("by", x.by(0), y.by(0));
            checks.about("laws " + text);
            for (int i = 0; i < 9; i++) {
                int a = random.nextInt(4);
                int b = random.nextInt(4);
                int given = random.nextInt(9);
                due("size", x.two(a, b, 1), y.two(a, b, 1));
                due("late", x.two(a, b, 2), y.two(a, b, 2));
                due("more", x.more(a, b, given), y.more(a, b, given));
            }
            for (int a = 0; a < 4; a++) {
                due("ruin", x.of(a, 7), y.of(a, 7));
            }
        }
    }

    private int people() {
        return y.about(0);
    }

    /** Most often one that is told. */
    private int one() {
        if (random.nextInt(25) == 0 || people() == 0) {
            return random.nextInt(10) - 2;
        }
        return random.nextInt(people());
    }

    private int number(int least, int most) {
        switch (random.nextInt(20)) {
            case 0: return least;
            case 1: return most;
            case 2: return random.nextInt(8) == 0 ? least - 1 : least;
            case 3: return random.nextInt(8) == 0 ? most + 1 : most;
            default: return least + random.nextInt(most - least + 1);
        }
    }

    private void tellPerson() {
        int age = number(0, 99);
        int back = number(0, 99);
        int place = random.nextInt(3) == 0 ? number(0, 7) : random.nextInt(2);
        due("person " + age + " " + back + " " + place, x.person(age, back, place),
            y.person(age, back, place));
    }

    private int debt() {
        if (mood == 2) {
            return random.nextInt(4);
        }
        return random.nextInt(4) == 0 ? number(0, 9999) : random.nextInt(150);
    }

    private void change() {
        int a = one();
        int b = one();
        int c = one();
        switch (random.nextInt(mood == 1 ? 26 : 20)) {
            case 0:
                if (random.nextInt(4) == 0) {
                    tellPerson();
                }
                break;
            case 1: case 2: case 3: case 4:
                due("bow " + a + " " + b, x.bow(a, b), y.bow(a, b));
                break;
            case 5: case 6: case 7: case 8:
                int what = debt();
                due("owe " + a + " " + b + " " + what, x.owe(a, b, what), y.owe(a, b, what));
                break;
            case 9: case 10:
                int way = random.nextInt(12) == 0 ? random.nextInt(5) - 2 : random.nextBoolean() ? 1 : -1;
                due("walk " + a + " " + way, x.walk(a, way), y.walk(a, way));
                break;
            case 11:
                if (random.nextInt(3) == 0) {
                    due("feast", x.feast(), y.feast());
                }
                break;
            case 12: case 13:
                due("clear " + a + " " + b + " " + c, x.clear(a, b, c), y.clear(a, b, c));
                break;
            case 14: case 15:
                int n = random.nextInt(8) == 0 ? number(1, 60) : 1 + random.nextInt(8);
                due("hour " + n, x.hour(n), y.hour(n));
                break;
            case 16:
                if (mood != 2) {
                    int seed = number(0, 9999);
                    int weeks = number(1, 30);
                    due("weeks " + seed + " " + weeks, x.weeks(seed, weeks), y.weeks(seed, weeks));
                }
                break;
            case 17:
                for (int i = random.nextInt(6); i >= 0; i--) {
                    due("undo", x.undo(), y.undo());
                }
                break;
            case 18:
                if (random.nextInt(3) == 0) {
                    due("image", x.image(), y.image());
                } else if (random.nextInt(3) == 0) {
                    due("back", x.back(), y.back());
                }
                break;
            case 19:
                int bent = mood == 2 ? random.nextInt(9) - 1 : number(-1, 999);
                due("neck " + a + " " + bent, x.neck(a, bent), y.neck(a, bent));
                break;
            default:
                speak();
                break;
        }
        if (random.nextInt(mood == 1 ? 6 : 25) == 0) {
            speak();
        }
    }

    private void speak() {
        switch (random.nextInt(8)) {
            case 0: case 1: case 2:
                tellText(random.nextInt(4) == 0 ? texts.noise() : texts.draw(people()));
                break;
            case 3: case 4:
                int text = random.nextInt(6) - 1;
                due("by " + text, x.by(text), y.by(text));
                break;
            case 5:
                int script = random.nextInt(6) - 1;
                due("played " + script, x.played(script), y.played(script));
                break;
            case 6:
                int n = number(0, 310);
                due("end " + n, x.end(n), y.end(n));
                break;
            default:
                if (random.nextInt(10) == 0) {
                    due("text", x.text(), y.text());
                } else {
                    feed("bow 0 to 1; size 1;x".toCharArray(), 0);
                }
                break;
        }
    }

    private void feed(char[] signs, int from) {
        int[] five = new int[5];
        for (int i = 0; i < 20; i++) {
            int sign = from + i < signs.length ? signs[from + i] : ' ';
            five[i / 4] = five[i / 4] << 8 | sign;
        }
        due("feed", x.feed(five[0], five[1], five[2], five[3], five[4]), y.feed(five));
    }

    private void tellText(String text) {
        due("end 0", x.end(0), y.end(0));
        char[] signs = text.toCharArray();
        for (int from = 0; from < signs.length; from += 20) {
            feed(signs, from);
        }
        due("end", x.end(signs.length), y.end(signs.length));
        due("text " + text, x.text(), y.text());
        due("fault 0 of " + text, x.fault(0), y.fault(0));
        due("fault 1 of " + text, x.fault(1), y.fault(1));
    }

    private void look() {
        int a = one();
        int b = one();
        int what = random.nextInt(10) - 1;
        int n = number(1, 60);
        switch (random.nextInt(20)) {
            case 0: case 1: due("of " + a + " " + what, x.of(a, what), y.of(a, what)); break;
            case 2: case 3: case 4:
                int which = random.nextInt(6) - 1;
                due("two " + a + " " + b + " " + which, x.two(a, b, which), y.two(a, b, which));
                break;
            case 5: case 6:
                int given = number(0, 9999);
                due("more " + a + " " + b + " " + given, x.more(a, b, given), y.more(a, b, given));
                break;
            case 7:
                int i = random.nextInt(33) - 2;
                int part = random.nextInt(5) - 1;
                due("book " + i + " " + part, x.book(i, part), y.book(i, part));
                break;
            case 8:
                int other = random.nextInt(3) == 0 ? -1 : b;
                due("foretold " + n + " " + a + " " + other, x.foretold(n, a, other),
                    y.foretold(n, a, other));
                break;
            case 9: due("indoors " + n + " " + a, x.indoors(n, a), y.indoors(n, a)); break;
            case 10: due("first " + n, x.first(n), y.first(n)); break;
            case 11: due("whose " + n, x.whose(n), y.whose(n)); break;
            case 12: case 13: lookRoute(a); break;
            case 14: lookLane(); break;
            case 15:
                due("settled", x.settled(false), y.settled(false));
                due("settled parts", x.settled(true), y.settled(true));
                break;
            case 16:
                if (people() < 6 || random.nextInt(10) == 0) {
                    for (int k = -2; k <= people(); k++) {
                        due("doors " + k, x.doors(k), y.doors(k));
                    }
                }
                break;
            case 17:
                due("sure " + a + " " + b, x.sure(a, b), y.sure(a, b));
                if (random.nextInt(3) == 0) {
                    due("explained", x.explained(), y.explained());
                    due("corner", x.corner(), y.corner());
                }
                break;
            case 18: due("about " + what, x.about(what), y.about(what)); break;
            default: due("fault " + what, x.fault(what), y.fault(what)); break;
        }
    }

    private void lookRoute(int a) {
        int steps = y.route(a, -1);
        due("route " + a + " -1", x.route(a, -1), steps);
        for (int i = -2; i <= steps; i += i == -2 ? 2 : 1) {
            due("route " + a + " " + i, x.route(a, i), y.route(a, i));
        }
    }

    private void lookLane() {
        int n = number(1, 20);
        int a = number(0, 99);
        int b = random.nextInt(2) == 0 ? random.nextInt(8) : number(0, 99);
        int r = random.nextInt(2) == 0 ? random.nextInt(100) : number(0, 999);
        int c = random.nextInt(2) == 0 ? random.nextInt(150) : number(0, 9999);
        for (int what = 0; what < 3; what++) {
            due("lane " + n + " " + a + " " + b + " " + r + " " + c + " " + what,
                x.lane(n, a, b, r, c, what), y.lane(n, a, b, r, c, what));
        }
    }

    /** All that can be told of all, in a new order each time, as looking is to change nothing. */
    private void askAll() {
        List<Integer> kinds = new ArrayList<>(List.of(0, 1, 2, 3));
        java.util.Collections.shuffle(kinds, random);
        for (int kind : kinds) {
            for (int a = 0; a < people() && calls < CALLS - 20; a++) {
                if (kind < 2) {
                    for (int what = 4 * kind; what < 4 * kind + 4; what++) {
                        due("of " + a + " " + what, x.of(a, what), y.of(a, what));
                    }
                } else if (kind == 2) {
                    for (int b = 0; b < people(); b++) {
                        due("two " + a + " " + b, x.two(a, b, 0), y.two(a, b, 0));
                    }
                } else {
                    due("about " + a, x.about(a + 1), y.about(a + 1));
                }
            }
        }
    }
}
