/**
 * A town where a salute must be given back a little greater by nightfall: who owes whom how deep a
 * bow, by which laws, and what comes of it. The document DOC.md tells each call's answer.
 */
public final class BowsOwed {
    public static final int NONE = -1;

    private static final int NONE_SUCH = -2;
    private static final int MOST_PEOPLE = 7;
    private static final int PLACES = 8;
    private static final int MOST_OWED = 9999;
    private static final int LAST_DAY = 9999;
    private static final int DAY_HOURS = 10;
    private static final int MOST_HOURS = 60;
    private static final int MOST_WEEKS = 30;
    private static final int MOST_TEXTS = 4;
    private static final int MOST_CLAUSES = 24;
    private static final int TAPE = 300;
    private static final int FED = 20;
    private static final int BOOKED = 30;
    private static final int STEPS_KEPT = 30;
    private static final int NECKS = 5;
    private static final int BEYOND_ALL = 2147483647;

    // Tokens. The signs + - * / ( ) ; < > = # stand for themselves, by their own numbers.
    private static final int UNKNOWN = 0;
    private static final int FINISH = 1;
    private static final int NUMBER = 2;
    private static final int NEGATED = 3;
    private static final int AT_MOST = 4;
    private static final int AT_LEAST = 5;

    // Words, by their order in WORDS: SIZE to RUIN are laws, SIZE to HOUR begin a clause, HOUR to
    // GIVEN are names.
    private static final String WORDS = "size more late ruin one bow owe walk retreat clear feast hour back day who age whom other owes due given at to of and or not owed if then else end ";
    private static final int SIZE = 128;
    private static final int MORE = 129;
    private static final int LATE = 130;
    private static final int RUIN = 131;
    private static final int ONE = 132;
    private static final int BOW = 133;
    private static final int OWE = 134;
    private static final int WALK = 135;
    private static final int RETREAT = 136;
    private static final int CLEAR = 137;
    private static final int FEAST = 138;
    private static final int HOUR = 139;
    private static final int BACK = 140;
    private static final int DAY = 141;
    private static final int WHO = 142;
    private static final int AGE = 143;
    private static final int WHOM = 144;
    private static final int OTHER = 145;
    private static final int OWES = 146;
    private static final int DUE = 147;
    private static final int GIVEN = 148;
    private static final int AT = 149;
    private static final int TO = 150;
    private static final int OF = 151;
    private static final int AND = 152;
    private static final int OR = 153;
    private static final int NOT = 154;
    private static final int OWED = 155;
    private static final int IF = 156;
    private static final int THEN = 157;
    private static final int ELSE = 158;
    private static final int END = 159;
    private static final int LAWS = 4;
    private static final int NAMES = 10;

    // Faults.
    private static final int MISPLACED = 1;
    private static final int NOT_TOLD = 2;
    private static final int TOO_DEEP = 3;
    private static final int LAW_TWICE = 4;
    private static final int FOREIGN_NAME = 5;
    private static final int TOO_MANY = 6;

    private final People people = new People();
    private final Whole now = new Whole();
    private final Whole kept = new Whole();
    private final Script lawless = new Script();
    private final Script[] texts = new Script[MOST_TEXTS];
    private final Town town = new Town(people, now.state, lawless);
    private final Town foreseen = new Town(people, new State(), lawless);
    private final Tape tape = new Tape();
    private final Reader reader = new Reader(tape);
    private final Errand errand = new Errand();
    private final Reckoning reckoning = new Reckoning();
    private final Meetings meetings = new Meetings();

    public BowsOwed() {
        for (int i = 0; i < texts.length; i++) {
            texts[i] = new Script();
        }
    }

    public int person(int age, int back, int place) {
        boolean told = within(age, 0, 99) && within(back, 0, 99) && within(place, 0, PLACES - 1);
        int one = now.state.count;
        if (!told || one >= MOST_PEOPLE) {
            return NONE;
        }
        people.tell(one, age, back, place);
        now.state.enter(people);
        return one;
    }

    public int bow(int one, int other) {
        if (!town.canBow(one, other)) {
            return NONE;
        }
        now.keepStep();
        town.bows(one, other);
        return now.state.leftOf(one);
    }

    public boolean owe(int one, int other, int what) {
        State state = now.state;
        boolean told = state.areTwo(one, other) && within(what, 0, MOST_OWED);
        if (!told || state.owed(one, other) == what) {
            return false;
        }
        now.keepStep();
        state.setOwed(one, other, what);
        return true;
    }

    public int walk(int one, int way) {
        State state = now.state;
        if (!state.out(one) || (way != 1 && way != -1)) {
            return NONE;
        }
        now.keepStep();
        state.walks(one, way);
        return state.placeOf(one);
    }

    public int feast() {
        now.keepStep();
        return now.state.forgives();
    }

    public int clear(int a, int b, int c) {
        int least = now.state.clearable(a, b, c);
        if (least == 0) {
            return NONE;
        }
        now.keepStep();
        now.state.clears(a, b, c, least);
        return least;
    }

    public int hour(int n) {
        if (!within(n, 1, Math.min(MOST_HOURS, now.state.hoursToCome()))) {
            return NONE;
        }
        int ruined = 0;
        for (int i = 0; i < n; i++) {
            now.keepStep();
            ruined += town.passHour();
        }
        return ruined;
    }

    public int weeks(int seed, int n) {
        State state = now.state;
        if (!within(seed, 0, 9999) || !within(n, 1, MOST_WEEKS) || state.count == 0) {
            return NONE;
        }
        now.keepStep();
        state.x = seed * 2 + 97;
        for (int i = 0; i < n; i++) {
            town.drawDeed();
        }
        return state.day;
    }

    public int feed(int a, int b, int c, int d, int e) {
        if (tape.length + FED > TAPE) {
            return NONE;
        }
        tape.add(a);
        tape.add(b);
        tape.add(c);
        tape.add(d);
        tape.add(e);
        return tape.length;
    }

    public int end(int n) {
        if (!within(n, 0, tape.length)) {
            return NONE;
        }
        tape.length = n;
        return n;
    }

    public int text() {
        int text = now.texts;
        if (text >= MOST_TEXTS) {
            return NONE;
        }
        boolean sound = reader.read();
        tape.length = 0;
        if (!sound) {
            return NONE;
        }
        script(text).copyFrom(reader.draft);
        now.texts = text + 1;
        return text;
    }

    public int fault(int what) {
        switch (what) {
            case 0: return reader.fault;
            case 1: return reader.faultAt;
            default: return NONE;
        }
    }

    public boolean by(int text) {
        if (text != NONE && !isText(text)) {
            return false;
        }
        now.ruling = text;
        town.laws.rule(script(text));
        return true;
    }

    public int played(int text) {
        if (!isText(text)) {
            return NONE_SUCH;
        }
        Script script = script(text);
        for (int i = 0; i < script.clauses; i++) {
            if (!isLaw(script.deed(i)) && !play(script, i)) {
                return i;
            }
        }
        return NONE;
    }

    public int undo() {
        return now.takeBack(people) ? now.steps : NONE;
    }

    public int of(int one, int what) {
        State state = now.state;
        if (!state.has(one)) {
            return NONE;
        }
        switch (what) {
            case 0: return people.ageOf(one);
            case 1: return people.backOf(one);
            case 2: return state.placeOf(one);
            case 3: return state.leftOf(one);
            case 4: return state.indoorsOf(one);
            case 5: return state.owesTogether(one);
            case 6: return state.owedTogether(one);
            case 7: return town.laws.ruinOf(one);
            default: return NONE;
        }
    }

    public int two(int one, int other, int what) {
        State state = now.state;
        if (!state.areTwo(one, other)) {
            return NONE;
        }
        switch (what) {
            case 0: return state.owed(one, other);
            case 1: return town.laws.sizeOf(one, other);
            case 2: return state.owed(one, other) > 0 ? town.laws.lateOf(one, other) : 0;
            case 3: return state.meet(one, other) ? 1 : 0;
            default: return NONE;
        }
    }

    public int more(int one, int other, int given) {
        if (!now.state.areTwo(one, other) || !within(given, 0, MOST_OWED)) {
            return NONE;
        }
        return town.laws.moreOf(one, other, given);
    }

    public int book(int i, int what) {
        if (i == NONE) {
            return now.state.written;
        }
        if (!within(i, 0, now.state.written - 1) || !within(what, 0, State.ENTRY - 1)) {
            return NONE_SUCH;
        }
        return now.state.booked(i, what);
    }

    public int foretold(int n, int one, int other) {
        State state = now.state;
        boolean told = other == NONE ? state.has(one) : state.areTwo(one, other);
        if (!told || !within(n, 1, MOST_HOURS)) {
            return NONE_SUCH;
        }
        foresee(n, now.ruling);
        State then = foreseen.state;
        return other == NONE ? then.owesTogether(one) : then.owed(one, other);
    }

    public int indoors(int n, int one) {
        if (!now.state.has(one) || !within(n, 1, MOST_HOURS)) {
            return NONE_SUCH;
        }
        foresee(n, now.ruling);
        return foreseen.state.indoorsOf(one);
    }

    public int first(int n) {
        if (!within(n, 1, MOST_HOURS) || foresee(n, now.ruling) == 0) {
            return NONE;
        }
        return foreseen.state.booked(0, State.ENTRY_WHO);
    }

    public int whose(int n) {
        if (!within(n, 1, MOST_HOURS)) {
            return NONE;
        }
        int mildest = NONE;
        int fewest = BEYOND_ALL;
        for (int text = 0; text < now.texts; text++) {
            int ruined = foresee(n, text);
            if (ruined < fewest) {
                fewest = ruined;
                mildest = text;
            }
        }
        return mildest;
    }

    public int route(int one, int i) {
        if (!now.state.out(one) || !errand.find(now.state, one)) {
            return NONE_SUCH;
        }
        if (i == NONE) {
            return errand.steps;
        }
        return within(i, 0, errand.steps - 1) ? errand.step(i) : NONE_SUCH;
    }

    public int settled(boolean parts) {
        int sets = reckoning.mostEvenSets(now.state);
        // A set that is even by itself takes one payment less than it has people.
        return parts ? sets : now.state.count - sets;
    }

    public int lane(int n, int a, int b, int r, int c, int what) {
        boolean told = within(n, 1, 20) && within(a, 0, 99) && within(b, 0, 99)
            && within(r, 0, 999) && within(c, 0, 9999) && within(what, 0, 2);
        if (!told) {
            return NONE;
        }
        int step = n;
        int chooser = c;
        int waiter = c;
        // From the last step back, so that what waiting leads to is known at each.
        for (int k = n - 1; k >= 0; k--) {
            int chosen = waiter;
            waiter = chooser;
            chooser = chosen;
            if (a + k * b <= chooser) {
                step = k;
                chooser = a + k * b;
                waiter = Math.max(0, r - k * b);
            }
        }
        switch (what) {
            case 0: return step;
            case 1: return chooser;
            default: return waiter;
        }
    }

    public int doors(int i) {
        reckoning.weighOrders(now.state);
        if (i == NONE) {
            return reckoning.leastPaid();
        }
        return within(i, 0, now.state.count - 1) ? reckoning.door(now.state, i) : NONE;
    }

    public boolean neck(int one, int bent) {
        boolean told = within(one, 0, necksNow() - 1) && (bent == NONE || within(bent, 0, 999));
        if (told) {
            now.necks[one] = bent;
        }
        return told;
    }

    public int explained() {
        meetings.reckon(now.state, now.necks);
        return meetings.sets;
    }

    public int sure(int one, int other) {
        int most = necksNow() - 1;
        if (one == other || !within(one, 0, most) || !within(other, 0, most)) {
            return NONE;
        }
        meetings.reckon(now.state, now.necks);
        return meetings.sureOf(Math.min(one, other), Math.max(one, other));
    }

    public int corner() {
        meetings.reckon(now.state, now.necks);
        return meetings.mostOpen();
    }

    public int image() {
        kept.copyFrom(now);
        return now.state.day;
    }

    public int back() {
        now.copyFrom(kept);
        town.laws.rule(script(now.ruling));
        return now.state.day;
    }

    public int about(int what) {
        switch (what) {
            case 0: return now.state.count;
            case 1: return now.state.day;
            case 2: return now.state.hour;
            case 3: return now.state.x;
            case 4: return now.texts;
            case 5: return now.ruling;
            case 6: return now.steps;
            case 7: return tape.length;
            default: return NONE_SUCH;
        }
    }

    private static boolean within(int value, int least, int most) {
        return least <= value && value <= most;
    }

    private static int clamped(int value, int least, int most) {
        return Math.max(least, Math.min(most, value));
    }

    private static boolean isLaw(int token) {
        return SIZE <= token && token <= RUIN;
    }

    private boolean isText(int text) {
        return within(text, 0, now.texts - 1);
    }

    private Script script(int text) {
        if (!within(text, 0, texts.length - 1)) {
            return lawless;
        }
        Script script = texts[text];
        return script == null ? lawless : script;
    }

    private int necksNow() {
        return Math.min(NECKS, now.state.count);
    }

    /** Lets up to n hours pass over a copy of the town: how many are ruined in these. */
    private int foresee(int n, int ruling) {
        State then = foreseen.state;
        then.copyFrom(now.state);
        // The copy's book starts empty, so that its first entry is the first of these hours.
        then.written = 0;
        foreseen.laws.rule(script(ruling));
        int hours = Math.min(n, then.hoursToCome());
        int ruined = 0;
        for (int i = 0; i < hours; i++) {
            ruined += foreseen.passHour();
        }
        return ruined;
    }

    /** Does what a clause says as by hand: whether all of it could be. */
    private boolean play(Script script, int clause) {
        int a = script.number(clause, 0);
        int b = script.number(clause, 1);
        int c = script.number(clause, 2);
        switch (script.deed(clause)) {
            case ONE: return person(a, b, c) != NONE;
            case BOW: return bow(a, b) != NONE;
            case OWE: return owe(a, b, c);
            case WALK: return walk(a, 1) != NONE;
            case RETREAT: return walk(a, -1) != NONE;
            case CLEAR: return clear(a, b, c) != NONE;
            case FEAST: return feast() != NONE;
            case HOUR:
                for (int i = 0; i < a; i++) {
                    if (hour(1) == NONE) {
                        return false;
                    }
                }
                return true;
            default: return false;
        }
    }

    /** People as they were told; what they have become since stands in a State. */
    private static final class People {
        private final int[] age = new int[MOST_PEOPLE];
        private final int[] back = new int[MOST_PEOPLE];
        private final int[] place = new int[MOST_PEOPLE];

        void tell(int one, int itsAge, int itsBack, int itsPlace) {
            if (within(one, 0, MOST_PEOPLE - 1)) {
                age[one] = itsAge;
                back[one] = itsBack;
                place[one] = itsPlace;
            }
        }

        int ageOf(int one) {
            return within(one, 0, MOST_PEOPLE - 1) ? age[one] : 0;
        }

        int backOf(int one) {
            return within(one, 0, MOST_PEOPLE - 1) ? back[one] : 0;
        }

        int placeOf(int one) {
            return within(one, 0, MOST_PEOPLE - 1) ? place[one] : 0;
        }
    }

    /** All that a step can change, and so all that taking one back restores. */
    private static final class State {
        static final int ENTRY = 3;
        static final int ENTRY_WHO = 1;

        int count;
        int day;
        int hour;
        int x = 97;
        int written;
        private final int[] left = new int[MOST_PEOPLE];
        private final int[] place = new int[MOST_PEOPLE];
        private final int[] indoors = new int[MOST_PEOPLE];
        private final int[] owes = new int[MOST_PEOPLE * MOST_PEOPLE];
        private final int[] book = new int[BOOKED * ENTRY];

        void copyFrom(State other) {
            count = other.count;
            day = other.day;
            hour = other.hour;
            x = other.x;
            written = other.written;
            System.arraycopy(other.left, 0, left, 0, left.length);
            System.arraycopy(other.place, 0, place, 0, place.length);
            System.arraycopy(other.indoors, 0, indoors, 0, indoors.length);
            System.arraycopy(other.owes, 0, owes, 0, owes.length);
            System.arraycopy(other.book, 0, book, 0, book.length);
        }

        boolean has(int one) {
            return 0 <= one && one < count && one < MOST_PEOPLE;
        }

        boolean areTwo(int one, int other) {
            return one != other && has(one) && has(other);
        }

        boolean out(int one) {
            return has(one) && indoors[one] == 0;
        }

        boolean meet(int one, int other) {
            return one != other && out(one) && out(other) && place[one] == place[other];
        }

        int leftOf(int one) {
            return has(one) ? left[one] : 0;
        }

        int placeOf(int one) {
            return has(one) ? place[one] : 0;
        }

        int indoorsOf(int one) {
            return has(one) ? indoors[one] : 0;
        }

        int owed(int one, int other) {
            boolean told = 0 <= one && one < count && 0 <= other && other < count;
            int at = told ? one * MOST_PEOPLE + other : 0;
            return told && at < owes.length ? owes[at] : 0;
        }

        void setOwed(int one, int other, int what) {
            if (areTwo(one, other)) {
                owes[one * MOST_PEOPLE + other] = clamped(what, 0, MOST_OWED);
            }
        }

        int owesTogether(int one) {
            int sum = 0;
            for (int other = 0; other < count; other++) {
                sum += owed(one, other);
            }
            return sum;
        }

        int owedTogether(int one) {
            int sum = 0;
            for (int other = 0; other < count; other++) {
                sum += owed(other, one);
            }
            return sum;
        }

        /**
         * The next of the people comes in as it was told. Behind the count all is 0 in each state,
         * so it isn't indoors, owes nobody and is owed nothing.
         */
        void enter(People people) {
            int one = count;
            if (within(one, 0, MOST_PEOPLE - 1)) {
                left[one] = people.backOf(one);
                place[one] = people.placeOf(one);
                count = one + 1;
            }
        }

        void bends(int one, int size) {
            if (has(one)) {
                left[one] -= size;
            }
        }

        void walks(int one, int way) {
            if (has(one)) {
                place[one] = Math.floorMod(place[one] + way, PLACES);
            }
        }

        int forgives() {
            int sum = 0;
            for (int one = 0; one < count; one++) {
                int most = 0;
                for (int other = 1; other < count; other++) {
                    if (owed(one, other) > owed(one, most)) {
                        most = other;
                    }
                }
                sum += owed(one, most);
                setOwed(one, most, 0);
            }
            return sum;
        }

        /** By how much each of three can be less; 0 if they can't be cleared. */
        int clearable(int a, int b, int c) {
            if (!meet(a, b) || !meet(b, c) || !meet(c, a)) {
                return 0;
            }
            return Math.min(owed(a, b), Math.min(owed(b, c), owed(c, a)));
        }

        void clears(int a, int b, int c, int least) {
            setOwed(a, b, owed(a, b) - least);
            setOwed(b, c, owed(b, c) - least);
            setOwed(c, a, owed(c, a) - least);
        }

        int hoursToCome() {
            return (LAST_DAY - day) * DAY_HOURS + DAY_HOURS - 1 - hour;
        }

        /** One sleeps over: it can bend its whole back again, and a day indoors is over. */
        void sleeps(int one, int back) {
            if (has(one)) {
                left[one] = back;
                indoors[one] = Math.max(0, indoors[one] - 1);
            }
        }

        void ruins(int one) {
            if (has(one)) {
                write(one, owesTogether(one));
                indoors[one] = 3;
                for (int other = 0; other < count; other++) {
                    setOwed(one, other, 0);
                }
            }
        }

        private void write(int who, int sum) {
            if (written >= BOOKED) {
                System.arraycopy(book, ENTRY, book, 0, book.length - ENTRY);
                written = BOOKED - 1;
            }
            int at = written * ENTRY;
            if (0 <= at && at + 2 < book.length) {
                book[at] = day;
                book[at + ENTRY_WHO] = who;
                book[at + 2] = sum;
                written++;
            }
        }

        int booked(int i, int what) {
            boolean there = within(i, 0, Math.min(written, BOOKED) - 1);
            return there && within(what, 0, ENTRY - 1) ? book[i * ENTRY + what] : NONE;
        }

        int draw(int by) {
            int drawn = by > 0 ? x % by : 0;
            x = (x * 299 + 199) % 30323;
            return drawn;
        }
    }

    /**
     * All that an image holds. People and texts need no copy: those told ahead of an image never
     * change, so their counts are enough.
     */
    private static final class Whole {
        final State state = new State();
        final int[] necks = new int[] {NONE, NONE, NONE, NONE, NONE};
        int texts;
        int ruling = NONE;
        int steps;
        // The states ahead of the latest steps; a new one takes the eldest one's room.
        private final State[] before = new State[STEPS_KEPT];
        private int eldest;

        Whole() {
            for (int i = 0; i < before.length; i++) {
                before[i] = new State();
            }
        }

        void copyFrom(Whole other) {
            state.copyFrom(other.state);
            System.arraycopy(other.necks, 0, necks, 0, necks.length);
            texts = other.texts;
            ruling = other.ruling;
            steps = other.steps;
            eldest = other.eldest;
            for (int i = 0; i < before.length; i++) {
                State mine = before[i];
                State its = other.before[i];
                if (mine != null && its != null) {
                    mine.copyFrom(its);
                }
            }
        }

        void keepStep() {
            State room = step(steps);
            if (room != null) {
                room.copyFrom(state);
            }
            if (steps < STEPS_KEPT) {
                steps++;
            } else {
                eldest = (eldest + 1) % STEPS_KEPT;
            }
        }

        private State step(int i) {
            int at = (eldest + i) % STEPS_KEPT;
            return within(at, 0, before.length - 1) ? before[at] : null;
        }

        boolean takeBack(People people) {
            if (steps == 0) {
                return false;
            }
            steps--;
            int told = state.count;
            State was = step(steps);
            if (was != null) {
                state.copyFrom(was);
            }
            // No step tells people, so those told since stay, as they were told.
            for (int one = state.count; one < told; one++) {
                state.enter(people);
            }
            return true;
        }
    }

    /** What a text comes to: its laws as code for a machine with a stack, and its other clauses. */
    private static final class Script {
        // A step of the code is a token with a value: a number's, or where to go on.
        static final int BASE = 256;
        static final int NUMBERS = 3;

        // Each token leaves one step at most, so a tape's length is room enough.
        private final int[] code = new int[TAPE];
        private final int[] starts = new int[LAWS];
        private final int[] stops = new int[LAWS];
        private final int[] deeds = new int[MOST_CLAUSES];
        private final int[] numbers = new int[MOST_CLAUSES * NUMBERS];
        int length;
        int clauses;

        void empty() {
            length = 0;
            clauses = 0;
            for (int i = 0; i < LAWS; i++) {
                starts[i] = 0;
                stops[i] = 0;
            }
        }

        void copyFrom(Script other) {
            length = other.length;
            clauses = other.clauses;
            System.arraycopy(other.code, 0, code, 0, code.length);
            System.arraycopy(other.starts, 0, starts, 0, starts.length);
            System.arraycopy(other.stops, 0, stops, 0, stops.length);
            System.arraycopy(other.deeds, 0, deeds, 0, deeds.length);
            System.arraycopy(other.numbers, 0, numbers, 0, numbers.length);
        }

        /** Opens a clause by its first token. */
        void begin(int token) {
            if (within(clauses, 0, MOST_CLAUSES - 1)) {
                deeds[clauses] = token;
                clauses++;
            }
            if (isLaw(token)) {
                starts[token - SIZE] = length;
                stops[token - SIZE] = length;
            }
        }

        void endLaw(int law) {
            if (isLaw(law)) {
                stops[law - SIZE] = length;
            }
        }

        /** Puts a number into the latest clause. */
        void tellNumber(int i, int value) {
            int at = (clauses - 1) * NUMBERS + i;
            if (within(i, 0, NUMBERS - 1) && within(at, 0, numbers.length - 1)) {
                numbers[at] = value;
            }
        }

        /** Adds a step of code: where it stands. */
        int emit(int token, int value) {
            if (within(length, 0, code.length - 1)) {
                code[length] = value * BASE + token;
                length++;
            }
            return length - 1;
        }

        /** Lets the step at a place go on behind all that is there yet. */
        void leadHere(int at) {
            if (within(at, 0, length - 1)) {
                code[at] = length * BASE + code[at] % BASE;
            }
        }

        int deed(int clause) {
            return within(clause, 0, MOST_CLAUSES - 1) ? deeds[clause] : UNKNOWN;
        }

        int number(int clause, int i) {
            boolean there = within(clause, 0, MOST_CLAUSES - 1) && within(i, 0, NUMBERS - 1);
            return there ? numbers[clause * NUMBERS + i] : NONE;
        }

        boolean has(int law) {
            return isLaw(law) && starts[law - SIZE] < stops[law - SIZE];
        }

        int start(int law) {
            return isLaw(law) ? starts[law - SIZE] : 0;
        }

        int stop(int law) {
            return isLaw(law) ? stops[law - SIZE] : 0;
        }

        int step(int at) {
            return within(at, 0, code.length - 1) ? code[at] : UNKNOWN;
        }
    }

    /** The bytes that were fed, and the token among them that is looked at. */
    private static final class Tape {
        private final int[] bytes = new int[TAPE];
        int length;
        int token;
        int value;
        int start;
        private int at;

        void add(int four) {
            for (int shift = 24; shift >= 0; shift -= 8) {
                if (within(length, 0, TAPE - 1)) {
                    bytes[length] = (four >> shift) & 255;
                    length++;
                }
            }
        }

        void rewind() {
            at = 0;
            next();
        }

        void next() {
            while (at < length && (byteAt(at) == ' ' || byteAt(at) == '\n')) {
                at++;
            }
            start = at;
            value = 0;
            int sign = byteAt(at);
            if (at >= length) {
                token = FINISH;
            } else if (isLetter(sign)) {
                takeWord();
            } else if (isDigit(sign)) {
                takeNumber();
            } else {
                takeSign(sign);
            }
        }

        private void takeWord() {
            while (at < length && isLetter(byteAt(at))) {
                at++;
            }
            token = UNKNOWN;
            int word = SIZE;
            int i = start;
            for (int k = 0; k < WORDS.length() && token == UNKNOWN; k++) {
                int sign = WORDS.charAt(k);
                if (sign != ' ') {
                    // Behind a letter that differs no place fits any more, up to the next word.
                    i = i < at && byteAt(i) == sign ? i + 1 : TAPE + 1;
                } else if (i == at) {
                    token = word;
                } else {
                    word++;
                    i = start;
                }
            }
        }

        private void takeNumber() {
            token = NUMBER;
            while (at < length && isDigit(byteAt(at))) {
                // Above all that can be told it is enough to know that it is.
                value = Math.min(value * 10 + byteAt(at) - '0', MOST_OWED + 1);
                at++;
            }
        }

        private void takeSign(int sign) {
            at++;
            boolean like = byteAt(at) == '=';
            if (sign == '<' && like) {
                token = AT_MOST;
                at++;
            } else if (sign == '>' && like) {
                token = AT_LEAST;
                at++;
            } else {
                token = "<>=#+-*/();".indexOf((char) sign) >= 0 ? sign : UNKNOWN;
            }
        }

        private int byteAt(int i) {
            return 0 <= i && i < length && i < TAPE ? bytes[i] : UNKNOWN;
        }

        private static boolean isLetter(int sign) {
            return ('a' <= sign && sign <= 'z') || ('A' <= sign && sign <= 'Z');
        }

        private static boolean isDigit(int sign) {
            return '0' <= sign && sign <= '9';
        }
    }

    /** Reads the tape as a text into a draft, up to the first fault. */
    private static final class Reader {
        static final int DEEPEST = 8;

        final Script draft = new Script();
        int fault = NONE;
        int faultAt = NONE;
        private final Tape tape;
        private int law;

        Reader(Tape tape) {
            this.tape = tape;
        }

        boolean read() {
            fault = 0;
            faultAt = NONE;
            draft.empty();
            tape.rewind();
            for (int i = 0; i <= MOST_CLAUSES && fault == 0 && !is(FINISH); i++) {
                readClause();
            }
            return fault == 0;
        }

        private boolean is(int token) {
            return fault == 0 && tape.token == token;
        }

        private void fail(int kind) {
            if (fault == 0) {
                fault = kind;
                faultAt = tape.start;
            }
        }

        private void expect(int token) {
            if (is(token)) {
                tape.next();
            } else {
                fail(MISPLACED);
            }
        }

        private void readClause() {
            int first = tape.token;
            if (!within(first, SIZE, HOUR)) {
                fail(MISPLACED);
            } else if (isLaw(first) && draft.has(first)) {
                fail(LAW_TWICE);
            } else if (draft.clauses >= MOST_CLAUSES) {
                fail(TOO_MANY);
            } else {
                draft.begin(first);
                tape.next();
                if (isLaw(first)) {
                    law = first;
                    readSum(0);
                    draft.endLaw(first);
                } else {
                    readDeed(first);
                }
                expect(';');
            }
        }

        private void readDeed(int deed) {
            switch (deed) {
                case ONE:
                    readNumber(0, 0, 99);
                    expect(BACK);
                    readNumber(1, 0, 99);
                    expect(AT);
                    readNumber(2, 0, PLACES - 1);
                    break;
                case BOW:
                    readNumber(0, 0, MOST_PEOPLE - 1);
                    expect(TO);
                    readNumber(1, 0, MOST_PEOPLE - 1);
                    break;
                case OWE:
                    readNumber(0, 0, MOST_PEOPLE - 1);
                    expect(TO);
                    readNumber(1, 0, MOST_PEOPLE - 1);
                    expect(OF);
                    readNumber(2, 0, MOST_OWED);
                    break;
                case WALK:
                case RETREAT:
                    readNumber(0, 0, MOST_PEOPLE - 1);
                    break;
                case CLEAR:
                    readNumber(0, 0, MOST_PEOPLE - 1);
                    expect(AND);
                    readNumber(1, 0, MOST_PEOPLE - 1);
                    expect(AND);
                    readNumber(2, 0, MOST_PEOPLE - 1);
                    break;
                case HOUR:
                    readNumber(0, 1, MOST_HOURS);
                    break;
                default:
                    break;
            }
        }

        private void readNumber(int i, int least, int most) {
            if (!is(NUMBER)) {
                fail(MISPLACED);
            } else if (!within(tape.value, least, most)) {
                fail(NOT_TOLD);
            } else {
                draft.tellNumber(i, tape.value);
                tape.next();
            }
        }

        // A turn of the loops below takes a token, and a tape has no more of them than bytes.

        private void readSum(int depth) {
            readProduct(depth);
            for (int i = 0; i < TAPE && (is('+') || is('-')); i++) {
                int sign = tape.token;
                tape.next();
                readProduct(depth);
                draft.emit(sign, 0);
            }
        }

        private void readProduct(int depth) {
            readPart(depth);
            for (int i = 0; i < TAPE && (is('*') || is('/')); i++) {
                int sign = tape.token;
                tape.next();
                readPart(depth);
                draft.emit(sign, 0);
            }
        }

        /** What the document calls ONE. */
        private void readPart(int depth) {
            if (is('(') || is('-') || is(OWED) || is(IF)) {
                readNested(depth);
            } else if (is(NUMBER)) {
                if (tape.value > MOST_OWED) {
                    fail(NOT_TOLD);
                } else {
                    draft.emit(NUMBER, tape.value);
                    tape.next();
                }
            } else if (!within(tape.token, HOUR, GIVEN)) {
                fail(MISPLACED);
            } else if (!isOfLaw(tape.token)) {
                fail(FOREIGN_NAME);
            } else if (fault == 0) {
                draft.emit(tape.token, 0);
                tape.next();
            }
        }

        private void readNested(int depth) {
            int token = tape.token;
            if (depth >= DEEPEST) {
                fail(TOO_DEEP);
                return;
            }
            tape.next();
            switch (token) {
                case '(':
                    readSum(depth + 1);
                    expect(')');
                    break;
                case '-':
                    readPart(depth + 1);
                    draft.emit(NEGATED, 0);
                    break;
                case OWED:
                    readPart(depth + 1);
                    expect(TO);
                    readPart(depth + 1);
                    draft.emit(OWED, 0);
                    break;
                default:
                    readChoice(depth + 1);
                    break;
            }
        }

        private void readChoice(int depth) {
            readEither(depth);
            expect(THEN);
            int otherwise = draft.emit(THEN, 0);
            readSum(depth);
            expect(ELSE);
            int over = draft.emit(ELSE, 0);
            draft.leadHere(otherwise);
            readSum(depth);
            expect(END);
            draft.leadHere(over);
        }

        private void readEither(int depth) {
            readBoth(depth);
            for (int i = 0; i < TAPE && is(OR); i++) {
                tape.next();
                readBoth(depth);
                draft.emit(OR, 0);
            }
        }

        private void readBoth(int depth) {
            readAsk(depth);
            for (int i = 0; i < TAPE && is(AND); i++) {
                tape.next();
                readAsk(depth);
                draft.emit(AND, 0);
            }
        }

        private void readAsk(int depth) {
            if (is(NOT) && depth >= DEEPEST) {
                fail(TOO_DEEP);
            } else if (is(NOT)) {
                tape.next();
                readAsk(depth + 1);
                draft.emit(NOT, 0);
            } else {
                readSum(depth);
                int sign = tape.token;
                if (!isComparison(sign)) {
                    fail(MISPLACED);
                } else if (fault == 0) {
                    tape.next();
                    readSum(depth);
                    draft.emit(sign, 0);
                }
            }
        }

        private static boolean isComparison(int token) {
            switch (token) {
                case '<':
                case '>':
                case '=':
                case '#':
                case AT_MOST:
                case AT_LEAST:
                    return true;
                default:
                    return false;
            }
        }

        private boolean isOfLaw(int name) {
            switch (name) {
                case BACK: return law == SIZE || law == RUIN;
                case WHOM:
                case OTHER: return law != RUIN;
                case OWES: return law == SIZE || law == LATE;
                case DUE: return law == SIZE;
                case GIVEN: return law == MORE;
                default: return true;
            }
        }
    }

    /**
     * What a script's laws say of the people in a state, and what holds without them: the bounds of
     * each law hold in both cases.
     */
    private static final class Laws {
        static final int FARTHEST = 1000000;
        // Eight things open around one another leave five values each waiting at most.
        static final int STACK = 64;

        private final People people;
        private final State state;
        private final int[] names = new int[NAMES];
        private final int[] stack = new int[STACK];
        private int top;
        private Script script;

        Laws(People people, State state, Script script) {
            this.people = people;
            this.state = state;
            this.script = script;
        }

        void rule(Script ruling) {
            script = ruling;
        }

        int sizeOf(int one, int other) {
            int asked = state.owed(one, other);
            if (has(SIZE)) {
                name(one, other, 0);
                asked = run(SIZE);
            }
            return clamped(asked, 1, 99);
        }

        /** How much more one owes to another one that gave more than it owed. */
        int moreOf(int one, int other, int given) {
            int asked = given + given / 10 + 1;
            if (has(MORE)) {
                name(one, other, given);
                asked = run(MORE);
            }
            return clamped(asked, 0, MOST_OWED);
        }

        int lateOf(int one, int other) {
            int asked = 2 * state.owed(one, other);
            if (has(LATE)) {
                name(one, other, 0);
                asked = run(LATE);
            }
            return clamped(asked, 0, MOST_OWED);
        }

        int ruinOf(int one) {
            int asked = 300;
            if (has(RUIN)) {
                name(one, NONE, 0);
                asked = run(RUIN);
            }
            return clamped(asked, 0, MOST_OWED);
        }

        private boolean has(int law) {
            return script != null && script.has(law);
        }

        private void name(int who, int whom, int given) {
            names[HOUR - HOUR] = state.hour;
            names[BACK - HOUR] = state.leftOf(who);
            names[DAY - HOUR] = state.day;
            names[WHO - HOUR] = who;
            names[AGE - HOUR] = people.ageOf(who);
            names[WHOM - HOUR] = whom;
            names[OTHER - HOUR] = people.ageOf(whom);
            names[OWES - HOUR] = state.owed(who, whom);
            names[DUE - HOUR] = state.owed(whom, who);
            names[GIVEN - HOUR] = given;
        }

        private int run(int law) {
            Script code = script;
            if (code == null) {
                return 0;
            }
            top = 0;
            int at = code.start(law);
            int stop = code.stop(law);
            // The code leads ahead alone, so it has no more steps to do than it has.
            for (int left = TAPE; left > 0 && at < stop; left--) {
                int token = code.step(at) % Script.BASE;
                int value = code.step(at) / Script.BASE;
                at++;
                if (token == NUMBER) {
                    push(value);
                } else if (within(token, HOUR, GIVEN)) {
                    push(names[token - HOUR]);
                } else if (token == ELSE || (token == THEN && pop() == 0)) {
                    at = value;
                } else if (token == OWED) {
                    int whom = pop();
                    push(state.owed(pop(), whom));
                } else if (token == NEGATED) {
                    push(-pop());
                } else if (token == NOT) {
                    push(1 - pop());
                } else if (token != THEN) {
                    int right = pop();
                    push(joined(token, pop(), right));
                }
            }
            return pop();
        }

        private void push(int value) {
            if (0 <= top && top < STACK) {
                stack[top] = value;
                top++;
            }
        }

        private int pop() {
            if (top <= 0 || top > STACK) {
                return 0;
            }
            top--;
            return stack[top];
        }

        private static int joined(int sign, int left, int right) {
            long sum;
            switch (sign) {
                case '+': sum = (long) left + right; break;
                case '-': sum = (long) left - right; break;
                case '*': sum = (long) left * right; break;
                case '/': sum = right == 0 ? 0 : left / right; break;
                case '<': return left < right ? 1 : 0;
                case '>': return left > right ? 1 : 0;
                case '=': return left == right ? 1 : 0;
                case '#': return left != right ? 1 : 0;
                case AT_MOST: return left <= right ? 1 : 0;
                case AT_LEAST: return left >= right ? 1 : 0;
                case AND: return left & right;
                case OR: return left | right;
                default: return 0;
            }
            return (int) Math.max(-FARTHEST, Math.min(FARTHEST, sum));
        }
    }

    /** A state under laws: what people do in it, and what the hours do to them. */
    private static final class Town {
        final State state;
        final Laws laws;
        private final People people;

        Town(People people, State state, Script script) {
            this.people = people;
            this.state = state;
            this.laws = new Laws(people, state, script);
        }

        boolean canBow(int one, int other) {
            return state.meet(one, other) && state.leftOf(one) >= laws.sizeOf(one, other);
        }

        void bows(int one, int other) {
            int size = laws.sizeOf(one, other);
            int owed = state.owed(one, other);
            state.bends(one, size);
            state.setOwed(one, other, owed - size);
            if (size > owed) {
                int more = laws.moreOf(other, one, size - owed);
                state.setOwed(other, one, state.owed(other, one) + more);
            }
        }

        /** Lets an hour pass that can: how many are ruined in it. */
        int passHour() {
            state.hour++;
            if (state.hour < DAY_HOURS) {
                return 0;
            }
            state.hour = 0;
            state.day++;
            for (int one = 0; one < state.count; one++) {
                for (int other = 0; other < state.count; other++) {
                    if (state.owed(one, other) > 0) {
                        state.setOwed(one, other, laws.lateOf(one, other));
                    }
                }
            }
            int ruined = 0;
            for (int one = 0; one < state.count; one++) {
                state.sleeps(one, people.backOf(one));
                if (state.owesTogether(one) > laws.ruinOf(one)) {
                    state.ruins(one);
                    ruined++;
                }
            }
            return ruined;
        }

        void drawDeed() {
            int deed = state.draw(7);
            int one = state.draw(state.count);
            if (deed <= 2) {
                int other = state.draw(state.count);
                if (canBow(one, other)) {
                    bows(one, other);
                }
            } else if (deed == 3) {
                int way = state.draw(2) == 1 ? 1 : -1;
                if (state.out(one)) {
                    state.walks(one, way);
                }
            } else if (deed == 4) {
                if (state.draw(9) == 0) {
                    state.forgives();
                }
            } else if (state.hoursToCome() > 0) {
                passHour();
            }
        }
    }

    /** The shortest walk of one that pays all whom it owes and meets nobody else by himself. */
    private static final class Errand {
        // With a place to shun six others can be between, three to one side: 3 + 3 + 3 steps.
        static final int LONGEST = 9;

        int steps;
        private int way;
        private int turn;
        private int from;
        private int wanted;
        private int shunned;

        /**
         * Looks for it: whether there is one. Walks that turn at most once are enough: all places
         * of one that turns more often are on one that turns once and is shorter.
         */
        boolean find(State state, int one) {
            look(state, one);
            if (reaches(0, 1, 0)) {
                return true;
            }
            for (int n = 1; n <= LONGEST; n++) {
                for (int i = n; i > 0; i--) {
                    if (reaches(n, 1, i)) {
                        return true;
                    }
                }
                for (int i = 1; i <= n; i++) {
                    if (reaches(n, -1, i)) {
                        return true;
                    }
                }
            }
            return false;
        }

        int step(int i) {
            return i < turn ? way : -way;
        }

        private void look(State state, int one) {
            from = state.placeOf(one);
            wanted = 0;
            shunned = 0;
            for (int other = 0; other < state.count; other++) {
                if (other != one && state.out(other)) {
                    int place = 1 << state.placeOf(other);
                    if (state.owed(one, other) > 0) {
                        wanted |= place;
                    } else {
                        shunned |= place;
                    }
                }
            }
            shunned &= ~wanted;
        }

        /** Tries n steps, those behind the first so many the other way. */
        private boolean reaches(int n, int firstWay, int turnAt) {
            steps = n;
            way = firstWay;
            turn = turnAt;
            int place = from;
            int reached = 1 << place;
            for (int i = 0; i < n; i++) {
                place = Math.floorMod(place + step(i), PLACES);
                reached |= 1 << place;
                if ((shunned & 1 << place) != 0) {
                    return false;
                }
            }
            return (wanted & ~reached) == 0;
        }
    }

    /** What is best over all sets of people, a set being the bits of a number. */
    private static final class Reckoning {
        static final int SETS = 1 << MOST_PEOPLE;

        private final int[] have = new int[SETS];
        private final int[] best = new int[SETS];

        /** Into how many sets that are even by themselves all can be parted at most. */
        int mostEvenSets(State state) {
            int sets = Math.min(SETS, 1 << state.count);
            have[0] = 0;
            best[0] = 0;
            for (int set = 1; set < sets; set++) {
                int one = Integer.numberOfTrailingZeros(set);
                int its = state.owedTogether(one) - state.owesTogether(one);
                have[set] = have[set & set - 1] + its;
                best[set] = 0;
                for (int last = 0; last < state.count; last++) {
                    if ((set >> last & 1) != 0) {
                        best[set] = Math.max(best[set], best[set & ~(1 << last)]);
                    }
                }
                if (have[set] == 0) {
                    best[set]++;
                }
            }
            return best[sets - 1];
        }

        /** For each set that stands ahead: the least that all others pay behind it. */
        void weighOrders(State state) {
            int all = Math.min(SETS, 1 << state.count) - 1;
            best[all] = 0;
            for (int ahead = all - 1; ahead >= 0; ahead--) {
                best[ahead] = BEYOND_ALL;
                for (int next = 0; next < state.count; next++) {
                    if ((ahead >> next & 1) == 0) {
                        best[ahead] = Math.min(best[ahead], paidWith(state, ahead, next));
                    }
                }
            }
        }

        int leastPaid() {
            return best[0];
        }

        /** The i-th of the best order whose numbers are lowest, the first ones first. */
        int door(State state, int i) {
            int ahead = 0;
            int latest = NONE;
            for (int k = 0; k <= i && k < state.count; k++) {
                latest = nextDoor(state, ahead);
                ahead |= latest == NONE ? 0 : 1 << latest;
            }
            return latest;
        }

        private int nextDoor(State state, int ahead) {
            for (int next = 0; next < state.count; next++) {
                boolean behind = (ahead >> next & 1) == 0;
                if (behind && paidWith(state, ahead, next) == best[ahead & SETS - 1]) {
                    return next;
                }
            }
            return NONE;
        }

        /** The least that is paid behind a set if one comes next, its own part too. */
        private int paidWith(State state, int ahead, int next) {
            int sum = best[(ahead | 1 << next) & SETS - 1];
            for (int one = 0; one < state.count; one++) {
                if ((ahead >> one & 1) != 0) {
                    sum += state.owed(one, next);
                }
            }
            return sum;
        }
    }

    /** Which twos met, as far as the necks tell. */
    private static final class Meetings {
        static final int TWOS = 10;

        int sets;
        private int twos;
        private final int[] lower = new int[TWOS];
        private final int[] higher = new int[TWOS];
        private final int[] met = new int[TWOS];
        private final int[] bent = new int[NECKS];

        /** Counts the sets of twos that explain the necks, and in how many of them each two met. */
        void reckon(State state, int[] necks) {
            sets = 0;
            listTwos(Math.min(NECKS, state.count));
            for (int i = 0; i < NECKS; i++) {
                bent[i] = 0;
            }
            int set = 0;
            for (int i = 0; i < 1 << twos; i++) {
                // A set differs by one two from that of the turn before, so one two bends anew.
                int changed = i == 0 ? NONE : Integer.numberOfTrailingZeros(i);
                if (within(changed, 0, twos - 1)) {
                    set ^= 1 << changed;
                    bend(state, changed, (set >> changed & 1) != 0 ? 1 : -1);
                }
                if (explains(necks)) {
                    count(set);
                }
            }
        }

        private void listTwos(int people) {
            twos = 0;
            for (int one = 0; one < people; one++) {
                for (int other = one + 1; other < people; other++) {
                    if (within(twos, 0, TWOS - 1)) {
                        lower[twos] = one;
                        higher[twos] = other;
                        met[twos] = 0;
                        twos++;
                    }
                }
            }
        }

        private void bend(State state, int two, int sign) {
            if (within(two, 0, TWOS - 1)) {
                int one = lower[two];
                int other = higher[two];
                if (within(one, 0, NECKS - 1) && within(other, 0, NECKS - 1)) {
                    bent[one] += sign * state.owed(one, other);
                    bent[other] += sign * state.owed(other, one);
                }
            }
        }

        private boolean explains(int[] necks) {
            for (int i = 0; i < NECKS && i < necks.length; i++) {
                if (necks[i] != NONE && necks[i] != bent[i]) {
                    return false;
                }
            }
            return true;
        }

        private void count(int set) {
            sets++;
            for (int two = 0; two < twos && two < TWOS; two++) {
                met[two] += set >> two & 1;
            }
        }

        int sureOf(int one, int other) {
            for (int two = 0; two < twos && two < TWOS; two++) {
                if (lower[two] == one && higher[two] == other && sets > 0) {
                    return met[two] == sets ? 1 : met[two] == 0 ? 0 : NONE;
                }
            }
            return NONE;
        }

        /** The two that met in as near to half of the sets as can be, but surely neither way. */
        int mostOpen() {
            int open = NONE;
            int nearest = BEYOND_ALL;
            for (int two = 0; two < twos && two < TWOS; two++) {
                int off = Math.abs(2 * met[two] - sets);
                if (off < nearest && off < sets) {
                    nearest = off;
                    open = 10 * lower[two] + higher[two];
                }
            }
            return open;
        }
    }
}
