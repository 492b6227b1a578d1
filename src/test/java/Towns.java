/** Ways to make, to tell and to look over a town that the tests share. */
final class Towns {
    private static final int MOST_PLAYED = 24 * 60;

    private Towns() {
    }

    /** A town whose people are all 50 years old at place 0 and can bend 99 a day. */
    static BowsOwed town(int people) {
        return ring(new int[people]);
    }

    /** A town whose people stand at these places. */
    static BowsOwed ring(int... places) {
        BowsOwed x = new BowsOwed();
        for (int place : places) {
            x.person(50, 99, place);
        }
        return x;
    }

    static void put(BowsOwed x, String text) {
        x.end(0);
        for (int from = 0; from < text.length(); from += 20) {
            int[] five = new int[5];
            for (int i = 0; i < 20; i++) {
                int sign = from + i < text.length() ? text.charAt(from + i) : 0;
                five[i / 4] = five[i / 4] << 8 | sign;
            }
            x.feed(five[0], five[1], five[2], five[3], five[4]);
        }
        x.end(text.length());
    }

    static int tell(BowsOwed x, String text) {
        put(x, text);
        return x.text();
    }

    static boolean rule(BowsOwed x, String text) {
        return x.by(tell(x, text));
    }

    static String times(String part, int n) {
        return part.repeat(n);
    }

    /** A town at a day and an hour, and with a text, by which so many hours can be played. */
    static BowsOwed at(int day, int hour, int people) {
        BowsOwed x = town(people);
        int script = tell(x, times("hour 60;", 24));
        int left = day * 10 + hour;
        for (; left >= MOST_PLAYED; left -= MOST_PLAYED) {
            x.played(script);
        }
        for (; left > 0; left -= Math.min(60, left)) {
            x.hour(Math.min(60, left));
        }
        return x;
    }

    /** One is ruined by another one in the night that comes: a day passes. */
    static void ruin(BowsOwed x, int one, int other) {
        x.owe(one, other, 301);
        x.hour(10);
    }

    /** All that can be asked of a town without changing it, but for its texts, steps and image. */
    static String whole(BowsOwed x) {
        StringBuilder all = new StringBuilder();
        for (int what = 0; what < 8; what++) {
            all.append(x.about(what)).append(' ');
        }
        int people = x.about(0);
        for (int one = 0; one < people; one++) {
            all.append("| ");
            for (int what = 0; what < 8; what++) {
                all.append(x.of(one, what)).append(' ');
            }
            for (int other = 0; other < people; other++) {
                all.append(x.two(one, other, 0)).append(' ').append(x.sure(one, other)).append(' ');
            }
        }
        int written = x.book(-1, 0);
        for (int i = 0; i < written; i++) {
            all.append("| ").append(x.book(i, 0)).append(' ').append(x.book(i, 1)).append(' ')
                .append(x.book(i, 2));
        }
        all.append("| ").append(x.fault(0)).append(' ').append(x.fault(1)).append(' ')
            .append(x.explained()).append(' ').append(x.corner());
        return all.toString();
    }
}
