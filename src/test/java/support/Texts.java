package support;

import java.util.Random;

/** Draws texts: most of them sound, some with a fault. */
public final class Texts {
    private static final String[] WORDS = {"size", "more", "late", "ruin", "one", "bow", "owe",
        "walk", "retreat", "clear", "feast", "hour", "back", "day", "who", "age", "whom", "other",
        "owes", "due", "given", "at", "to", "of", "and", "or", "not", "owed", "if", "then", "else",
        "end", "(", ")", ";", "+", "-", "*", "/", "<", ">", "=", "#", "<=", ">=", "0", "1", "6",
        "7", "60", "61", "99", "100", "9999", "10000", "!", "Size", "sizes", "siz", "\u00e9", "\t"};
    private static final String[] NAMES = {"day", "hour", "who", "age", "back", "whom", "other",
        "owes", "due", "given"};
    private static final String[][] OF_LAW = {
        {"day", "hour", "who", "age", "back", "whom", "other", "owes", "due"},
        {"day", "hour", "who", "age", "whom", "other", "given", "given"},
        {"day", "hour", "who", "age", "whom", "other", "owes", "owes"},
        {"day", "hour", "who", "age", "back"}};
    private static final String[] LAWS = {"size", "more", "late", "ruin"};
    private static final String[] SIGNS = {"<", "<=", ">", ">=", "=", "#"};

    private final Random random;

    public Texts(Random random) {
        this.random = random;
    }

    private String pick(String... any) {
        return any[random.nextInt(any.length)];
    }

    /** A text whose people are below a number, cut to what a tape holds. */
    public String draw(int people) {
        StringBuilder text = new StringBuilder();
        int clauses = random.nextInt(8) == 0 ? 20 + random.nextInt(7) : random.nextInt(7);
        int laws = 0;
        for (int i = 0; i < clauses; i++) {
            int law = random.nextInt(4);
            String clause;
            boolean again = (laws >> law & 1) == 1 && random.nextInt(10) > 0;
            if (clauses < 20 && random.nextInt(2) == 0 && !again) {
                laws |= 1 << law;
                clause = LAWS[law] + " " + sum(law, random.nextInt(4)) + ";";
            } else {
                clause = deed(people, clauses >= 20);
            }
            if (text.length() + clause.length() > 300) {
                break;
            }
            text.append(clause);
        }
        return random.nextInt(5) == 0 ? spoilt(text.toString()) : text.toString();
    }

    /** Laws alone, without a fault, of sums whose parts are small, so that asks go both ways. */
    public String laws() {
        StringBuilder text = new StringBuilder();
        int first = random.nextInt(4);
        for (int i = 0; i < 4; i++) {
            int law = (first + i) % 4;
            String clause = LAWS[law] + " " + small(law, 1 + random.nextInt(4)) + ";";
            if (text.length() + clause.length() <= 300) {
                text.append(clause);
            }
        }
        return text.toString();
    }

    private String leaf(int law) {
        return " " + (random.nextInt(2) == 0 ? pick(OF_LAW[law]) : "" + random.nextInt(8)) + " ";
    }

    private String small(int law, int depth) {
        if (depth == 0) {
            return leaf(law);
        }
        switch (random.nextInt(9)) {
            case 0: return leaf(law) + "+" + small(law, depth - 1);
            case 1: return small(law, depth - 1) + "-" + leaf(law);
            case 2: return leaf(law) + "*(" + small(law, depth - 1) + ")";
            case 3: return "(" + small(law, depth - 1) + ")/" + leaf(law);
            case 4: return leaf(law) + "- -(" + small(law, depth - 1) + ")";
            case 5: return " owed " + pick(" 0 ", " 1 ", " 2 ", " who ", "(" + small(law, depth - 1) + ")")
                + " to " + pick(" 0 ", " 1 ", " 2 ", " who ", "(" + small(law, depth - 1) + ")");
            default:
                return " if " + smallAsks(law, depth - 1) + " then " + small(law, depth - 1)
                    + " else " + small(law, depth - 1) + " end ";
        }
    }

    private String smallAsks(int law, int depth) {
        StringBuilder asks = new StringBuilder();
        for (int i = random.nextInt(4); i >= 0; i--) {
            asks.append(pick("", "", " not ", " not not "));
            asks.append(small(law, random.nextInt(4) == 0 ? depth : 0)).append(pick(SIGNS)).append(leaf(law));
            asks.append(i == 0 ? "" : pick(" or ", " and "));
        }
        return asks.toString();
    }

    private String person(int people) {
        return "" + (random.nextInt(30) == 0 ? random.nextInt(9) : random.nextInt(Math.max(1, people)));
    }

    private String deed(int people, boolean brief) {
        String a = person(people);
        String b = person(people);
        String c = person(people);
        switch (random.nextInt(brief ? 6 : 9)) {
            case 0: return "walk " + a + ";";
            case 1: return "retreat " + a + "\n;";
            case 2: return "feast;";
            case 3: return "hour " + (random.nextInt(30) == 0 ? random.nextInt(63) : 1 + random.nextInt(9)) + ";";
            case 4:
            case 5: return "bow " + a + " to " + b + ";";
            case 6: return "owe " + a + " to " + b + " of " + random.nextInt(120) + ";";
            case 7: return "clear " + a + " and " + b + " and " + c + ";";
            default: return "one " + random.nextInt(101) + " back " + random.nextInt(100) + " at "
                + random.nextInt(8) + ";";
        }
    }

    private String sum(int law, int depth) {
        StringBuilder sum = new StringBuilder(product(law, depth));
        while (random.nextInt(3) == 0) {
            sum.append(pick("+", "-")).append(product(law, depth));
        }
        return sum.toString();
    }

    private String product(int law, int depth) {
        StringBuilder product = new StringBuilder(one(law, depth));
        while (random.nextInt(3) == 0) {
            product.append(pick("*", "/", "/ ")).append(one(law, depth));
        }
        return product.toString();
    }

    private String one(int law, int depth) {
        if (depth == 0) {
            if (random.nextInt(40) == 0) {
                return " " + pick(NAMES) + " ";
            }
            if (random.nextInt(2) == 0) {
                return " " + pick(OF_LAW[law]) + " ";
            }
            return " " + (random.nextInt(6) == 0 ? random.nextInt(10000) : random.nextInt(12)) + " ";
        }
        switch (random.nextInt(6)) {
            case 0: return "(" + sum(law, depth - 1) + ")";
            case 1: return "-" + one(law, depth - 1);
            case 2: return " owed " + one(law, depth - 1) + " to " + one(law, depth - 1);
            case 3:
            case 4: return " if " + asks(law, depth - 1) + " then " + sum(law, depth - 1) + " else "
                + sum(law, depth - 1) + " end ";
            default: return one(law, 0);
        }
    }

    private String asks(int law, int depth) {
        StringBuilder asks = new StringBuilder(ask(law, depth));
        while (random.nextInt(3) == 0) {
            asks.append(pick(" or ", " and ")).append(ask(law, depth));
        }
        return asks.toString();
    }

    private String ask(int law, int depth) {
        if (random.nextInt(4) == 0) {
            return " not " + ask(law, depth);
        }
        return sum(law, depth) + pick(SIGNS) + sum(law, depth);
    }

    /** A text with one place changed. */
    private String spoilt(String text) {
        StringBuilder spoilt = new StringBuilder(text);
        int at = random.nextInt(text.length() + 1);
        switch (random.nextInt(4)) {
            case 0:
                spoilt.setLength(at);
                break;
            case 1:
                if (at < text.length()) {
                    spoilt.deleteCharAt(at);
                }
                break;
            case 2:
                int blank = text.indexOf(' ', at);
                spoilt.insert(blank < 0 ? at : blank, " " + pick(WORDS) + " ");
                break;
            default:
                spoilt.insert(at, pick(WORDS));
                break;
        }
        spoilt.setLength(Math.min(300, spoilt.length()));
        return spoilt.toString();
    }

    /** Words at random: nearly always with a fault, at its start most often. */
    public String noise() {
        StringBuilder text = new StringBuilder();
        for (int i = random.nextInt(30); i > 0 && text.length() < 280; i--) {
            text.append(pick(WORDS)).append(pick(" ", "", " "));
        }
        return text.toString();
    }
}
