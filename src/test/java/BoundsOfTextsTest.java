import support.Checks;

/** The document's second part: each sentence that names a bound, at the bound and one beyond it. */
public final class BoundsOfTextsTest {
    private static final Checks CHECKS = new Checks();

    public static void main(String[] args) {
        tapeFull();
        tapeEnd();
        cutAnywhere();
        bytesInOrder();
        readAgain();
        numbersOfTexts();
        fifthText();
        longTexts();
        everyByteAhead();
        everyByteBetween();
        everyByteAsSign();
        everyByteAsComparison();
        longestTokens();
        numbers();
        numbersOfDeeds();
        openedOfAKind();
        openedTogether();
        openedFull();
        openedBehind();
        lawsTwice();
        clauses();
        leastOfOne();
        firstOfAll();
        faultOfLatest();
        million();
        divided();
        owed();
        asks();
        comparisons();
        sizeBounds();
        lawBounds();
        lawsWithout();
        boundsInDeeds();
        playedNumbers();
        playedEnds();
        playedHours();
        playedAtTheLastHour();
        CHECKS.finish();
    }

    private static void due(String call, long got, long want) {
        CHECKS.due(call, got, want);
    }

    private static void due(String call, boolean got, boolean want) {
        CHECKS.due(call, got, want);
    }

    /** A text's fault and its place; kind 0: none. */
    private static void fault(String text, int kind, int place) {
        BowsOwed x = new BowsOwed();
        String shown = text.replace('\n', '_');
        due("text " + shown, Towns.tell(x, text), kind == 0 ? 0 : -1);
        due("fault of " + shown, x.fault(0), kind);
        due("place in " + shown, x.fault(1), place);
        due("tape behind " + shown, x.about(7), 0);
    }

    private static void sound(String text) {
        fault(text, 0, -1);
    }

    private static String times(String part, int n) {
        return Towns.times(part, n);
    }

    /** A sum by the law of more, of three of whom 0 owes 1 so much as 7, and 2 owes 0 9. */
    private static void sum(String sum, int want) {
        BowsOwed x = Towns.town(3);
        x.owe(0, 1, 7);
        x.owe(2, 0, 9);
        due("ruled by " + sum, Towns.rule(x, "more " + sum + ";"), true);
        due(sum, x.more(1, 0, 40), want);
    }

    private static void tapeFull() {
        CHECKS.about("of up to 300 bytes: NONE, and none come, if there would be more");
        BowsOwed x = new BowsOwed();
        for (int i = 1; i <= 15; i++) {
            due("feed", x.feed(0x20202020, 0x20202020, 0x20202020, 0x20202020, 0x20202020), 20 * i);
        }
        due("320", x.feed(0, 0, 0, 0, 0), -1);
        due("300 yet", x.about(7), 300);
        due("281", x.end(281), 281);
        due("301", x.feed(0, 0, 0, 0, 0), -1);
        due("281 yet", x.about(7), 281);
        due("280", x.end(280), 280);
        due("300 again", x.feed(0x20202020, 0x20202020, 0x20202020, 0x20202020, 0x20202021), 300);
        due("with a fault", x.text(), -1);
        due("at its last byte alone", x.fault(0) * 1000 + x.fault(1), 1299);
        due("the tape is empty", x.about(7), 0);
        due("20", x.feed(0, 0, 0, 0, 0), 20);
    }

    private static void tapeEnd() {
        CHECKS.about("end: NONE, and nothing is done, if it has not so many, or n is below 0");
        BowsOwed x = new BowsOwed();
        due("0 of 0", x.end(0), 0);
        due("1 of 0", x.end(1), -1);
        x.feed(0x66656173, 0x743b7761, 0x6c6b2030, 0x3b202020, 0x20202020);
        due("21 of 20", x.end(21), -1);
        due("-1", x.end(-1), -1);
        due("20 yet", x.about(7), 20);
        due("20 of 20", x.end(20), 20);
        due("19", x.end(19), 19);
        due("20 of 19", x.end(20), -1);
        due("13: a feast and a walk", x.end(13), 13);
        due("6: a feast", x.end(6), 6);
        due("no walk any more", x.end(13), -1);
        due("what comes stands behind", x.feed(0x686f7572, 0x20313b20, 0x20202020, 0, 0), 26);
        due("18", x.end(18), 18);
        due("a feast and an hour", x.text(), 0);
        due("done", x.played(0), -1);
        due("an hour passed", x.about(2) * 10 + x.about(6), 12);
        due("0 behind it", x.end(0), 0);
    }

    /** What was cut from a tape is not read, wherever it was cut. */
    private static void cutAnywhere() {
        CHECKS.about("The tape has its first n bytes alone");
        String whole = "size if 1<=22 then 3 else 4>=5 end; hour 60;\nretreat 12345 and so on;  ";
        for (int n = 0; n <= whole.length(); n++) {
            BowsOwed x = new BowsOwed();
            Towns.put(x, whole);
            due("end", x.end(n), n);
            int cut = x.text();
            BowsOwed y = new BowsOwed();
            due("text of " + n, cut, Towns.tell(y, whole.substring(0, n)));
            due("fault of " + n, x.fault(0), y.fault(0));
            due("place of " + n, x.fault(1), y.fault(1));
            due("within " + n, x.fault(1) <= n, true);
        }
        BowsOwed x = new BowsOwed();
        Towns.put(x, "size if 1<=2 then 3 else 4 end;");
        x.end(10);
        due("cut between < and =", x.text(), -1);
        due("at the length", x.fault(0) * 100 + x.fault(1), 110);
        Towns.put(x, "feast;");
        x.end(5);
        due("cut ahead of ;", x.text(), -1);
        due("at the length", x.fault(0) * 100 + x.fault(1), 105);
        Towns.put(x, "hour 60;");
        x.end(6);
        x.feed(0x3b202020, 0x20202020, 0x20202020, 0x20202020, 0x20202020);
        due("6 instead of 60", x.text(), 0);
        x.played(0);
        due("six hours", x.about(2), 6);
    }

    private static void bytesInOrder() {
        CHECKS.about("Twenty bytes come behind the tape, the highest of a first");
        for (int place = 0; place < 20; place++) {
            int[] five = {0x20202020, 0x20202020, 0x20202020, 0x20202020, 0x20202020};
            five[place / 4] = five[place / 4] ^ 0x80 << 8 * (3 - place % 4);
            BowsOwed x = new BowsOwed();
            x.feed(0x20202020, 0x20202020, 0x20202020, 0x20202020, 0x20202020);
            due("fed", x.feed(five[0], five[1], five[2], five[3], five[4]), 40);
            due("text", x.text(), -1);
            due("byte " + place, x.fault(0) * 100 + x.fault(1), 120 + place);
        }
        for (int far : new int[] {-2147483648, -1, 0, 1, 2147483647}) {
            BowsOwed x = new BowsOwed();
            due("feed " + far, x.feed(far, far, far, far, far), 20);
            x.text();
            due("its first byte", x.fault(0) * 100 + x.fault(1), 100);
        }
    }

    private static void readAgain() {
        CHECKS.about("texts read one behind the other leave nothing");
        BowsOwed x = Towns.town(2);
        for (int i = 0; i < 12; i++) {
            due("with a fault", Towns.tell(x, "more 1" + times("+1", 130) + "; late 7; ruin 8"), -1);
            due("at its end", x.fault(1), 282);
        }
        due("without late and ruin", Towns.rule(x, "more 11" + times("+1", 140) + ";"), true);
        due("its own sum", x.more(0, 1, 5), 151);
        due("ruin as without", x.of(0, 7), 300);
        x.owe(0, 1, 4);
        due("late as without", x.two(0, 1, 2), 8);
        due("size as without", x.two(0, 1, 1), 4);
        due("a shorter one", Towns.rule(x, "late 9;"), true);
        due("more as without", x.more(0, 1, 5), 6);
        due("late", x.two(0, 1, 2), 9);
    }

    private static void numbersOfTexts() {
        CHECKS.about("TEXTS 0 .. 3");
        BowsOwed x = Towns.town(2);
        for (int texts = 0; texts <= 4; texts++) {
            due("texts", x.about(4), texts);
            for (int text = -3; text <= 5; text++) {
                boolean told = text >= 0 && text < texts;
                due("by " + text + " of " + texts, x.by(text), told || text == -1);
                due("played " + text + " of " + texts, x.played(text), told ? -1 : -2);
            }
            due("the latest rules", x.about(5), texts - 1);
            due("size", x.two(0, 1, 1), texts == 0 ? 1 : 10 + texts - 1);
            due("the next one", Towns.tell(x, "size " + (10 + texts) + ";"), texts < 4 ? texts : -1);
        }
    }

    private static void fifthText() {
        CHECKS.about("text: NONE: .. or (the tape stays) there are 4");
        BowsOwed x = Towns.town(1);
        due("one with a fault takes no number", Towns.tell(x, "size"), -1);
        x.image();
        for (int i = 0; i < 4; i++) {
            due("text", Towns.tell(x, "hour 7;"), i);
        }
        Towns.put(x, "feast;!");
        due("a fifth", x.text(), -1);
        due("the tape stays", x.about(7), 7);
        due("it isn't read", x.fault(0) * 10 + x.fault(1), -1);
        due("four", x.about(4), 4);
        x.back();
        due("none of them", x.about(4), 0);
        due("the tape stays", x.about(7), 7);
        due("now it is read", x.text(), -1);
        due("as it was", x.fault(0) * 10 + x.fault(1), 16);
        due("the tape is empty", x.about(7), 0);
    }

    private static void longTexts() {
        CHECKS.about("of up to 300 bytes, to the last of them");
        sound("");
        sound(times(" ", 300));
        sound(times("\n", 300));
        sound(times(" ", 294) + "feast;");
        fault(times(" ", 295) + "feast", 1, 300);
        fault(times(" ", 299) + ";", 1, 299);
        fault(times(" ", 290) + "size if 1<", 1, 300);
        fault(times(" ", 290) + "size if 1>", 1, 300);
        fault(times(" ", 293) + "hour 60", 1, 300);
        fault(times("a", 300), 1, 0);
        fault(times("1", 300), 1, 0);
        sound("size " + times("0", 290) + "9999;");
        fault("size " + times("0", 289) + "10000;", 2, 5);
        fault("size " + times("9", 294) + ";", 2, 5);
        fault("size " + times("0", 295), 1, 300);
        sum("11" + times("+1", 145), 156);
        sum("11" + times("-1", 145), 0);
        sum("200" + times("-1", 144), 56);
        sum("11" + times("*1", 145), 11);
        sum("99" + times("/1", 145), 99);
        sum("if 1=2" + times("or 1=2", 43) + "then 5 else 6 end", 6);
        sum("if 1=2" + times("or 1=2", 42) + "or 1=1then 5 else 6 end", 5);
        sum("if 1=1" + times("and 1=1", 37) + "then 5 else 6 end", 5);
        sum("if 1=1" + times("and 1=1", 36) + "and 1=2then 5 else 6 end", 6);
    }

    private static boolean blank(int sign) {
        return sign == 32 || sign == 10;
    }

    private static boolean letter(int sign) {
        return (sign >= 65 && sign <= 90) || (sign >= 97 && sign <= 122);
    }

    private static boolean digit(int sign) {
        return sign >= 48 && sign <= 57;
    }

    private static void everyByteAhead() {
        CHECKS.about("TOKENS, blanks (32, 10) aside: at the first and at the last");
        for (int sign = 0; sign < 256; sign++) {
            fault((char) sign + "feast;", blank(sign) ? 0 : 1, blank(sign) ? -1 : 0);
            fault("feast;" + (char) sign, blank(sign) ? 0 : 1, blank(sign) ? -1 : 6);
            fault("" + (char) sign, blank(sign) ? 0 : 1, blank(sign) ? -1 : 0);
        }
    }

    private static void everyByteBetween() {
        CHECKS.about("letters a .. z, A .. Z one behind the other (one TOKEN), digits likewise");
        for (int sign = 0; sign < 256; sign++) {
            int place = letter(sign) ? 0 : sign == ';' ? 6 : 5;
            fault("feast" + (char) sign + ";", blank(sign) ? 0 : 1, blank(sign) ? -1 : place);
            if (blank(sign) || (sign >= '0' && sign <= '5')) {
                sound("hour" + (char) sign + "1;");
            } else {
                fault("hour" + (char) sign + "1;", digit(sign) ? 2 : 1, letter(sign) ? 0 : 4);
            }
            if (sign >= '1' && sign <= '9') {
                sound("hour" + (char) sign + ";");
            } else {
                int at = letter(sign) ? 0 : blank(sign) ? 5 : 4;
                fault("hour" + (char) sign + ";", sign == '0' ? 2 : 1, at);
            }
        }
    }

    private static void everyByteAsSign() {
        CHECKS.about("<= >= < > = # + - * / ( ) ; between numbers");
        for (int sign = 0; sign < 256; sign++) {
            String text = "size 1" + (char) sign + "2;";
            if (digit(sign) || "+-*/".indexOf(sign) >= 0) {
                sound(text);
            } else {
                fault(text, 1, blank(sign) || sign == ';' ? 7 : 6);
            }
        }
    }

    private static void everyByteAsComparison() {
        CHECKS.about("< <= > >= = # (unlike)");
        for (int sign = 0; sign < 256; sign++) {
            String text = "size if 1" + (char) sign + "2 then 3 else 4 end;";
            if ("<>=#".indexOf(sign) >= 0) {
                sound(text);
            } else {
                boolean goesOn = digit(sign) || "+-*/".indexOf(sign) >= 0;
                fault(text, 1, goesOn ? 12 : blank(sign) ? 10 : 9);
            }
        }
    }

    private static void longestTokens() {
        CHECKS.about("(the longest)");
        sound("size if 1<=2 then 3 else 4 end;");
        sound("size if 1>=2 then 3 else 4 end;");
        for (String two : new String[] {"=<", "=>", "==", "<>", "><", "##", "#=", "=#", "<<", ">>"}) {
            fault("size if 1" + two + "2 then 3 else 4 end;", 1, 10);
        }
        for (String three : new String[] {"< =", "> =", "<\n=", "<==", "<=<", ">==", "<=>", ">=>"}) {
            fault("size if 1" + three + "2 then 3 else 4 end;", 1, 11);
        }
        fault("size if 1<", 1, 10);
        fault("size if 1<=", 1, 11);
        sound("bow0to1;one1back2at3;clear0and1and2;owe0to1of2;");
        fault("bow0to1;one1backat3;", 1, 12);
        fault("feastfeast;", 1, 0);
        fault("fea st;", 1, 0);
        fault("siZe 1;", 1, 0);
        fault("size 1 0;", 1, 7);
        fault("size 10 000;", 1, 8);
    }

    private static void numbers() {
        CHECKS.about("NUMBERS, 0 .. 9999; 2 a NUMBER .. above 9999");
        sound("size 0;");
        sound("size 9998;");
        sound("size 9999;");
        fault("size 10000;", 2, 5);
        fault("size 10001;", 2, 5);
        sound("size 00009999;");
        fault("size 00010000;", 2, 5);
        fault("size 2147483648;", 2, 5);
        fault("size 4294967296;", 2, 5);
        fault("size 4294967297;", 2, 5);
        fault("size 18446744073709551616;", 2, 5);
        fault("size 1+10000;", 2, 7);
        fault("size (10000);", 2, 6);
        fault("size -10000;", 2, 6);
        fault("size owed 10000 to 1;", 2, 10);
        fault("size owed 1 to 10000;", 2, 15);
        fault("size if 10000=1 then 1 else 1 end;", 2, 8);
        sum("9999", 9999);
        sum("0", 0);
        sum("0000000040", 40);
    }

    /** A text with a number put in for ?: sound from a least one to a most one. */
    private static void field(String text, int least, int most) {
        int place = text.indexOf('?');
        sound(text.replace("?", "" + least));
        sound(text.replace("?", "" + most));
        sound(text.replace("?", "000" + most));
        fault(text.replace("?", "" + (most + 1)), 2, place);
        fault(text.replace("?", "9999999999"), 2, place);
        fault(text.replace("?", "-1"), 1, place);
        fault(text.replace("?", ""), 1, place + (text.substring(place + 1).startsWith(" ") ? 1 : 0));
        if (least > 0) {
            fault(text.replace("?", "" + (least - 1)), 2, place);
        }
    }

    private static void numbersOfDeeds() {
        CHECKS.about("AGE, BACK 0 .. 99, PLACES 0 .. 7, PEOPLE 0 .. 6, HOURS 1 .. 60");
        field("one ? back 5 at 5;", 0, 99);
        field("one 5 back ? at 5;", 0, 99);
        field("one 5 back 5 at ?;", 0, 7);
        field("bow ? to 5;", 0, 6);
        field("bow 5 to ?;", 0, 6);
        field("owe ? to 5 of 5;", 0, 6);
        field("owe 5 to ? of 5;", 0, 6);
        field("owe 5 to 5 of ?;", 0, 9999);
        field("walk ?;", 0, 6);
        field("retreat ?;", 0, 6);
        field("clear ? and 5 and 5;", 0, 6);
        field("clear 5 and ? and 5;", 0, 6);
        field("clear 5 and 5 and ?;", 0, 6);
        field("hour ?;", 1, 60);
    }

    /** So many of a kind are open around one another without a fault, the next one has one. */
    private static void opened(String ahead, String opens, String inner, String closes, String tail,
            int most) {
        CHECKS.about("3 the 9th of " + opens + " that are open around one another (at it)");
        for (int n = 1; n <= most; n++) {
            sound(ahead + times(opens, n) + inner + times(closes, n) + tail + ";");
        }
        int ninth = ahead.length() + most * opens.length();
        fault(ahead + times(opens, most + 1), 3, ninth);
        fault(ahead + times(opens, most + 4), 3, ninth);
        fault(ahead + times(opens, most + 1) + inner + times(closes, most + 1) + tail + ";", 3, ninth);
    }

    private static void openedOfAKind() {
        opened("size ", "(", "1", ")", "", 8);
        opened("size ", "-", "1", "", "", 8);
        opened("size ", "- ", "1", "", "", 8);
        opened("size ", "owed ", "1", " to 1", "", 8);
        opened("size ", "owed 1 to ", "1", "", "", 8);
        opened("size ", "if ", "1", "=1 then 2 else 3 end", "", 8);
        opened("size ", "if 1=1 then ", "1", " else 2 end", "", 8);
        opened("size ", "if 1=1 then 2 else ", "1", " end", "", 8);
        opened("size if ", "not ", "1=1", "", " then 2 else 3 end", 7);
        opened("size if 1=1 and ", "not ", "1=1", "", " or 1=2 then 2 else 3 end", 7);
    }

    private static void openedTogether() {
        CHECKS.about("3 the 9th of (, not, owed, if and - (of one ONE)");
        String eight = "size (-owed if not (-owed 1 to 2)=1 then 1 else 1 end to 1);";
        // ( - owed if not ( - owed: eight of all five kinds.
        sound(eight);
        fault(eight.replace("1 to 2", "-1 to 2"), 3, eight.indexOf("1 to 2"));
        fault(eight.replace("1 to 2", "(1) to 2"), 3, eight.indexOf("1 to 2"));
        fault(eight.replace("1 to 2", "owed 1 to 2 to 2"), 3, eight.indexOf("1 to 2"));
        fault(eight.replace("1 to 2", "if 1=1 then 1 else 1 end to 2"), 3, eight.indexOf("1 to 2"));
        fault(eight.replace("1 to 2", "1 to -2"), 3, eight.indexOf("2)"));
        String seven = "size ((((((if 1=1 then 1 else 1 end))))));";
        sound(seven.replace("1=1", "not 1=1"));
        fault(seven.replace("1=1", "not not 1=1"), 3, seven.indexOf("1=1") + 4);
        sound(seven.replace("1=1", "(1)=1"));
        fault(seven.replace("1=1", "((1))=1"), 3, seven.indexOf("1=1") + 1);
        sound(seven.replace("1=1", "1=-1"));
        fault(seven.replace("1=1", "1=--1"), 3, seven.indexOf("1=1") + 3);
        fault(seven.replace("1=1", "not 1=-1"), 3, seven.indexOf("1=1") + 6);
        sound(seven.replace("then 1", "then -1"));
        fault(seven.replace("then 1", "then --1"), 3, seven.indexOf("then 1") + 6);
        sound(seven.replace("else 1", "else -1"));
        fault(seven.replace("else 1", "else --1"), 3, seven.indexOf("else 1") + 6);
    }

    private static void openedFull() {
        CHECKS.about("eight open around one another, each with all that can wait ahead of it");
        // Of each: a side of or, one of and, one of <, one of + and one of *.
        String ahead = times("if 1=2or 1=1and 1<1+1*", 8);
        String behind = times("then1else0end ", 8);
        for (int inner = 0; inner <= 1; inner++) {
            BowsOwed x = Towns.town(2);
            due("a text", Towns.rule(x, "more " + ahead + inner + behind + ";"), true);
            due("1 is above 0 alone", x.more(0, 1, 40), inner);
        }
    }

    private static void openedBehind() {
        CHECKS.about("that are open around one another: closed ones don't count");
        sound("size " + times("(1)+", 20) + times("(", 8) + "1" + times(")", 8) + ";");
        sound("size " + times("-1-", 20) + times("-", 8) + "1;");
        fault("size " + times("-1-", 20) + times("-", 9) + "1;", 3, 73);
        sound("size owed " + times("-", 7) + "1 to " + times("-", 7) + "1+" + times("-", 8) + "1;");
        fault("size owed " + times("-", 8) + "1 to 1;", 3, 17);
        fault("size owed 1 to " + times("-", 8) + "1;", 3, 22);
        String ask = "not " + times("-", 6) + "1=" + times("-", 6) + "1";
        sound("size if " + ask + " and " + ask + " or " + ask + " then 1 else 1 end+"
            + times("-", 8) + "1;");
        fault("size if not " + times("-", 7) + "1=1 then 1 else 1 end;", 3, 18);
        sound("size if not 1=1 and " + times("-", 7) + "1=1 then 1 else 1 end;");
        fault("size if not 1=1 and " + times("-", 8) + "1=1 then 1 else 1 end;", 3, 27);
        // The minus between two parts is none of one part.
        sound("size " + times("(", 8) + "1-1-1" + times(")", 8) + ";");
        fault("size " + times("(", 8) + "1--1" + times(")", 8) + ";", 3, 15);
    }

    private static void lawsTwice() {
        CHECKS.about("4 size, more, late, ruin for the second time (at it)");
        String[] laws = {"size", "more", "late", "ruin"};
        for (String law : laws) {
            fault(law + " 1;" + law + " 2;", 4, 7);
            fault(law + " 1;feast;feast;" + law, 4, 19);
            for (String other : laws) {
                if (!other.equals(law)) {
                    sound(law + " 1;" + other + " 2;");
                    fault(law + " 1;" + other + " 2;" + law + " 3;", 4, 14);
                    fault(law + " 1;" + other + " 2;" + other + " 3;", 4, 14);
                }
            }
        }
        sound("ruin 1;late 1;more 1;size 1;");
        BowsOwed x = new BowsOwed();
        due("one text", Towns.tell(x, "size 1;"), 0);
        due("it is told once in another", Towns.tell(x, "size 2;"), 1);
        due("with a fault", Towns.tell(x, "late 2;late 2;"), -1);
        due("once behind that", Towns.tell(x, "late 2;"), 2);
    }

    private static void clauses() {
        CHECKS.about("{CLAUSE}, 24 at most; 6 the 25th CLAUSE (at its first TOKEN)");
        sound(times("feast;", 23));
        sound(times("feast;", 24));
        sound(times("feast;", 24) + " \n ");
        fault(times("feast;", 25), 6, 144);
        fault(times("feast;", 24) + "  feast", 6, 146);
        fault(times("feast;", 24) + "hour 0;", 6, 144);
        fault(times("feast;", 24) + "size back;", 6, 144);
        sound("size 1;" + times("feast;", 23));
        fault("size 1;" + times("feast;", 24), 6, 145);
        fault(times("walk 0;", 24) + "more 1;", 6, 168);
        sound(times("hour 1;", 20) + "size 1;more 1;late 1;ruin 1;");
        fault(times("hour 1;", 20) + "size 1;more 1;late 1;ruin 1;walk 0;", 6, 168);
        BowsOwed x = Towns.town(1);
        due("24 walks", Towns.tell(x, times("walk 0;", 24)), 0);
        due("all are played", x.played(0), -1);
        due("24 steps", x.about(6), 24);
        x = Towns.town(3);
        due("its numbers", Towns.tell(x, times("feast;", 23) + "owe 2 to 1 of 9999;"), 0);
        due("of the 24th", Towns.tell(x, times("feast;", 23) + "one 11 back 22 at 3;"), 1);
        due("as of the first", Towns.tell(x, "one 44 back 55 at 6;" + times("feast;", 23)), 2);
        due("owes", x.played(0) * 10000 + x.two(2, 1, 0), -1);
        due("told", x.played(1) * 10 + x.about(0), -6);
        due("as told", x.of(3, 0) * 1000 + x.of(3, 1) * 10 + x.of(3, 2), 11223);
        due("told again", x.played(2) * 10 + x.about(0), -5);
        due("as told", x.of(4, 0) * 1000 + x.of(4, 1) * 10 + x.of(4, 2), 44556);
    }

    private static void leastOfOne() {
        CHECKS.about("of one the least");
        String full = times("feast;", 24);
        fault(full + "!", 1, 144);
        fault(full + "1", 1, 144);
        fault(full + "day", 1, 144);
        fault(full + "10000", 1, 144);
        fault("size 1;" + times("feast;", 23) + "size 1;", 4, 145);
        fault("size 1;" + times("feast;", 23) + "late 1;", 6, 145);
        fault("size 1 10000;", 1, 7);
        fault("feast 10000;", 1, 6);
        fault("10000;", 1, 0);
        fault("more 1 back;", 1, 7);
        fault("ruin whom 1 whom;", 5, 5);
        String eight = "more " + times("(", 8);
        fault(eight + "1(", 1, 14);
        fault(eight + "not 1", 1, 13);
        fault(eight + "1 owed", 1, 15);
        fault(eight + "1 if", 1, 15);
        fault(eight + "-", 3, 13);
        fault(eight + "10000", 2, 13);
        fault(eight + "back", 5, 13);
        fault(eight + "size", 1, 13);
    }

    private static void firstOfAll() {
        CHECKS.about("FAULTS, the first as TOKENS are come to, at the TOKEN's first byte");
        fault("size 10000;!", 2, 5);
        fault("size back+10000;", 2, 10);
        fault("more back+10000;", 5, 5);
        fault("size 1;size 10000;", 4, 7);
        fault("bow 7 to 8;", 2, 4);
        fault("bow 8 two 7;", 2, 4);
        fault("bow 0 two 7;", 1, 6);
        fault("  \n feas;", 1, 4);
        fault("feast;\n\n  \n", 0, -1);
        fault("feast\n\n  \n", 1, 10);
        fault("size   ", 1, 7);
        fault("size 1   ", 1, 9);
        fault("size if 1=1 then 1 else 1 fin;", 1, 26);
    }

    private static void faultOfLatest() {
        CHECKS.about("Of the latest text that was read: .. NONE for others, and ahead of any");
        BowsOwed x = new BowsOwed();
        for (int what = -2; what < 4; what++) {
            due("ahead of any", x.fault(what), -1);
        }
        Towns.put(x, "size !;");
        due("not read yet", x.fault(0), -1);
        x.text();
        due("its fault", x.fault(0), 1);
        due("its place", x.fault(1), 5);
        due("2", x.fault(2), -1);
        due("-1", x.fault(-1), -1);
        Towns.tell(x, "size 1;");
        due("without", x.fault(0), 0);
        due("no place", x.fault(1), -1);
        Towns.tell(x, "hour 61;");
        due("the latest", x.fault(0) * 10 + x.fault(1), 25);
        x.back();
        due("going back leaves it", x.fault(0) * 10 + x.fault(1), 25);
    }

    private static void million() {
        CHECKS.about("what is above 1000000 (below the same less) is that, at each step");
        sum("9999*100+99-1000*999", 999);
        sum("9999*100+100-1000*999", 1000);
        sum("9999*100+101-1000*999", 1000);
        sum("1000*1000-1000*999", 1000);
        sum("1000*1000+1-1000*999", 1000);
        sum("1000*1000-1-1000*999", 999);
        sum("1001*1000-1000*999", 1000);
        sum("9999*9999-1000*999", 1000);
        sum("1000*1000*(1000*1000)/1000", 1000);
        sum("(0-1000*1000)*(0-1000*1000)/1000", 1000);
        sum("(0-1000*1000)*(1000*1000)/(0-1000)", 1000);
        sum("(0-1000*1000)/(0-1)-1000*999", 1000);
        sum("-(0-1000*1000)-1000*999", 1000);
        sum("1000*1000/1-1000*999", 1000);
        sum("5+(0-9999*100-99+1000*1000)", 6);
        sum("5+(0-9999*100-100+1000*1000)", 5);
        sum("5+(0-9999*100-101+1000*1000)", 5);
        sum("5+(0-1000*1000-1+1000*1000)", 5);
        sum("5+(0-1000*1000+1+1000*1000)", 6);
        sum("5+((0-1000)*1001+1000*1000)", 5);
        sum("5+(-9999*9999+1000*1000)", 5);
        sum("5+(-(1000*1000)+-(1000*1000)+1000*1000)", 5);
        sum("(1000*1000+1000*1000)/1000", 1000);
        sum("(-(1000*1000)-1000*1000)/-1000", 1000);
    }

    private static void divided() {
        CHECKS.about("/ cuts towards 0, by 0 it is 0");
        sum("7/2", 3);
        sum("10+-7/2", 7);
        sum("10+7/-2", 7);
        sum("-7/-2", 3);
        sum("10+-1/2", 10);
        sum("10+1/-2", 10);
        sum("6/2", 3);
        sum("10+-6/2", 7);
        sum("10+7/7", 11);
        sum("10+6/7", 10);
        sum("10+-7/7", 9);
        sum("5+7/0", 5);
        sum("5+-7/0", 5);
        sum("5+0/0", 5);
        sum("5+0/7", 5);
        sum("5+7/(1-1)*3", 5);
        sum("5+7/0/0", 5);
        sum("5+(1000*1000)/0", 5);
    }

    private static void owed() {
        CHECKS.about("0 if one of both isn't told, or they are one");
        sum("1+owed 0 to 1", 8);
        sum("1+owed 2 to 0", 10);
        sum("1+owed 1 to 0", 1);
        String[] none = {"3", "6", "7", "9999", "-1", "(0-7)", "(1000*1000)", "-(1000*1000)"};
        for (String one : none) {
            sum("1+owed " + one + " to 1", 1);
            sum("1+owed 0 to " + one, 1);
            sum("1+owed " + one + " to " + one, 1);
        }
        for (int one = 0; one < 3; one++) {
            sum("1+owed " + one + " to " + one, 1);
        }
        // By a row's length 7: what stands behind a row must not be the next row.
        BowsOwed x = Towns.town(7);
        x.owe(1, 0, 5);
        x.owe(5, 6, 8);
        Towns.rule(x, "more 1+owed 0 to 7+owed 6 to -1+owed 2 to -7+owed 7 to 0;");
        due("none of them", x.more(0, 1, 1), 1);
        Towns.rule(x, "more owed 5 to 6+owed 1 to 0;");
        due("the last of the people", x.more(0, 1, 1), 13);
    }

    private static String ask(int bit) {
        return bit == 1 ? "1=1" : "1=2";
    }

    private static void asks() {
        CHECKS.about("or and and look at both sides; of if just the SUM that is chosen");
        for (int bits = 0; bits < 8; bits++) {
            int a = bits & 1;
            int b = bits >> 1 & 1;
            int c = bits >> 2;
            String[] asks = {ask(a) + " or " + ask(b), ask(a) + " and " + ask(b),
                ask(a) + " or " + ask(b) + " or " + ask(c), ask(a) + " and " + ask(b) + " and " + ask(c),
                ask(a) + " or " + ask(b) + " and " + ask(c), ask(a) + " and " + ask(b) + " or " + ask(c),
                "not " + ask(a) + " or " + ask(b), "not " + ask(a) + " and " + ask(b),
                ask(a) + " or not " + ask(b), "not not " + ask(a) + " and not " + ask(c)};
            int[] so = {a | b, a & b, a | b | c, a & b & c, a | b & c, a & b | c,
                (1 - a) | b, (1 - a) & b, a | (1 - b), a & (1 - c)};
            for (int i = 0; i < asks.length; i++) {
                sum("if " + asks[i] + " then 5 else 6 end", so[i] == 1 ? 5 : 6);
                sum("3+if " + asks[i] + " then 5*2 else 6/0 end*2", so[i] == 1 ? 23 : 3);
            }
        }
    }

    private static void comparisons() {
        CHECKS.about("SUM one of < <= > >= = # (unlike) SUM");
        String[] signs = {"<", "<=", ">", ">=", "=", "#"};
        String[] so = {"100", "110", "001", "011", "010", "101"};
        String[] left = {"6", "7", "8"};
        String[] below = {"-8", "-7", "0-6"};
        String[] far = {"1000*1000-1", "1000*1000", "1000*1000+1"};
        for (int i = 0; i < signs.length; i++) {
            for (int k = 0; k < 3; k++) {
                int want = so[i].charAt(k) == '1' ? 5 : 6;
                sum("if " + left[k] + signs[i] + "owed 0 to 1 then 5 else 6 end", want);
                sum("if " + below[k] + signs[i] + "-7 then 5 else 6 end", want);
                int most = so[i].charAt(Math.min(k, 1)) == '1' ? 5 : 6;
                sum("if " + far[k] + signs[i] + "1000*1000 then 5 else 6 end", most);
            }
        }
    }

    private static void sizeBounds() {
        CHECKS.about("size: 1 at least, 99 at most");
        String[] sums = {"0-1000*1000", "0-1", "0", "1", "2", "98", "99", "100", "9999", "1000*1000"};
        int[] want = {1, 1, 1, 1, 2, 98, 99, 99, 99, 99};
        for (int i = 0; i < sums.length; i++) {
            BowsOwed x = Towns.town(2);
            Towns.rule(x, "size " + sums[i] + ";");
            due("size " + sums[i], x.two(0, 1, 1), want[i]);
            due("it bows so", x.bow(0, 1), 99 - want[i]);
        }
    }

    private static void lawBounds() {
        CHECKS.about("more, late, ruin: 0 at least, 9999 at most");
        String[] sums = {"0-1000*1000", "0-1", "0", "1", "9998", "9999", "9999+1", "1000*1000"};
        int[] want = {0, 0, 0, 1, 9998, 9999, 9999, 9999};
        for (int i = 0; i < sums.length; i++) {
            BowsOwed x = Towns.town(2);
            x.owe(0, 1, 5);
            Towns.rule(x, "more " + sums[i] + ";late " + sums[i] + ";ruin " + sums[i] + ";");
            due("more " + sums[i], x.more(0, 1, 7), want[i]);
            due("late " + sums[i], x.two(0, 1, 2), want[i]);
            due("late of nothing", x.two(1, 0, 2), 0);
            due("ruin " + sums[i], x.of(0, 7), want[i]);
            due("foretold", x.foretold(10, 0, 1), want[i]);
        }
    }

    private static void lawsWithout() {
        CHECKS.about("without: ..");
        int[] owed = {0, 1, 2, 98, 99, 100, 4999, 5000, 9999};
        int[] size = {1, 1, 2, 98, 99, 99, 99, 99, 99};
        int[] late = {0, 2, 4, 196, 198, 200, 9998, 9999, 9999};
        int[] given = {0, 1, 9, 10, 19, 20, 9089, 9090, 9999};
        int[] more = {1, 2, 10, 12, 21, 23, 9998, 9999, 9999};
        for (int texts = 0; texts < 2; texts++) {
            for (int i = 0; i < owed.length; i++) {
                BowsOwed x = Towns.town(2);
                x.owe(0, 1, owed[i]);
                // A text without laws rules as none.
                due("rules", texts == 0 ? x.by(-1) : Towns.rule(x, "feast;"), true);
                due("size of " + owed[i], x.two(0, 1, 1), size[i]);
                due("late of " + owed[i], x.two(0, 1, 2), late[i]);
                due("more of " + given[i], x.more(0, 1, given[i]), more[i]);
                due("ruin", x.of(0, 7), 300);
            }
        }
        BowsOwed x = Towns.town(2);
        due("given 10000", x.more(0, 1, 10000), -1);
        due("given -1", x.more(0, 1, -1), -1);
        due("of itself", x.more(0, 0, 1), -1);
    }

    private static void boundsInDeeds() {
        CHECKS.about("the bounds of laws, in what is done");
        BowsOwed x = Towns.town(2);
        Towns.rule(x, "size 0-7; more 9999+9999; late 0-1; ruin 0-1;");
        due("1 at least", x.bow(0, 1), 98);
        due("9999 at most", x.two(1, 0, 0), 9999);
        due("late 0 at least: nobody above 0", x.hour(10), 0);
        due("0", x.two(1, 0, 0), 0);
        due("who owes nothing isn't above ruin", x.of(0, 4) + x.of(1, 4), 0);
        Towns.rule(x, "size 9999; more 0-1; late 9999+9999; ruin 9999+9999;");
        due("99 at most", x.bow(0, 1), 0);
        due("0 more at least", x.two(1, 0, 0), 0);
        x.owe(0, 1, 1);
        due("9999 isn't above 9999", x.hour(10), 0);
        due("late 9999 at most", x.two(0, 1, 0), 9999);
        x = Towns.town(3);
        x.owe(0, 1, 9999);
        x.owe(0, 2, 1);
        x.owe(1, 2, 9999);
        Towns.rule(x, "late owes; ruin 9999+1;");
        due("10000 is above 9999", x.hour(10), 1);
        due("who", x.book(0, 1), 0);
    }

    private static void playedNumbers() {
        CHECKS.about("its number among all CLAUSES (from 0)");
        for (int number = 0; number < 24; number++) {
            BowsOwed x = Towns.town(1);
            String text = times("hour 1;", number) + "walk 1;" + times("feast;", 23 - number);
            due("text", Towns.tell(x, text), 0);
            due("the one that can't be", x.played(0), number);
            due("what was done stays", x.about(6), number);
            due("hours", x.about(1) * 10 + x.about(2), number);
        }
        BowsOwed x = Towns.town(1);
        due("laws have numbers", Towns.tell(x, "size 1;more 1;walk 0;late 1;ruin 1;walk 1;"), 0);
        due("5", x.played(0), 5);
        due("they don't rule", x.about(5), -1);
        due("no clauses", x.played(Towns.tell(x, "")), -1);
        due("laws alone", x.played(Towns.tell(x, "size 1;ruin 1;")), -1);
        due("no step by them", x.about(6), 1);
    }

    private static void ends(BowsOwed x, String clause) {
        int steps = x.about(6);
        int people = x.about(0);
        x.image();
        due(clause, x.played(Towns.tell(x, "walk 0;" + clause + ";feast;")), 1);
        due("steps of " + clause, x.about(6), steps + 1);
        due("people of " + clause, x.about(0), people);
        x.back();
    }

    private static void playedEnds() {
        CHECKS.about("PLAYED: as by hand; one that can't be ends it");
        BowsOwed x = Towns.town(6);
        x.owe(3, 4, 301);
        x.owe(1, 2, 50);
        x.hour(10);
        x.owe(1, 2, 50);
        ends(x, "bow 1 to 6");
        ends(x, "bow 6 to 1");
        ends(x, "bow 1 to 1");
        ends(x, "bow 1 to 0");
        ends(x, "bow 3 to 1");
        ends(x, "bow 1 to 3");
        ends(x, "owe 1 to 1 of 5");
        ends(x, "owe 1 to 2 of 50");
        ends(x, "owe 2 to 1 of 0");
        ends(x, "owe 6 to 1 of 5");
        ends(x, "owe 1 to 6 of 5");
        ends(x, "walk 6");
        ends(x, "walk 3");
        ends(x, "retreat 6");
        ends(x, "retreat 3");
        ends(x, "clear 1 and 2 and 4");
        ends(x, "clear 1 and 1 and 2");
        ends(x, "clear 6 and 1 and 2");
        x.person(1, 1, 1);
        ends(x, "one 1 back 1 at 1");
        BowsOwed y = Towns.town(6);
        due("a seventh can be", y.played(Towns.tell(y, "one 0 back 0 at 0;one 99 back 99 at 7;")), 1);
        due("seven", y.about(0), 7);
        due("as told", y.of(6, 0) + y.of(6, 1) + y.of(6, 2), 0);
        y = Towns.town(2);
        due("bow", y.played(Towns.tell(y, "bow 1 to 0;owe 1 to 0 of 9999;retreat 1;walk 0;")), -1);
        due("1 bowed", y.of(1, 3) * 1000 + y.of(0, 3), 98099);
        due("0 owes for it", y.two(0, 1, 0), 2);
        due("1 owes", y.two(1, 0, 0), 9999);
        due("1 is behind", y.of(1, 2), 7);
        due("0 is ahead", y.of(0, 2), 1);
    }

    private static void playedHours() {
        CHECKS.about("hour NUMBER, 1 .. 60, each a STEP");
        BowsOwed x = Towns.town(1);
        due("1", x.played(Towns.tell(x, "hour 1;")), -1);
        due("one step", x.about(6), 1);
        due("29 more", x.played(Towns.tell(x, "hour 28;hour 1;")), -1);
        due("30", x.about(6) * 100 + x.about(1) * 10 + x.about(2), 3030);
        due("60 more", x.played(Towns.tell(x, "hour 60;")), -1);
        due("30 steps yet", x.about(6) * 100 + x.about(1) * 10 + x.about(2), 3090);
    }

    private static void playedAtTheLastHour() {
        CHECKS.about("of so many HOURS those that can pass do");
        BowsOwed x = Towns.at(9998, 4, 1);
        due("15 can", x.played(Towns.tell(x, "hour 15;")), -1);
        due("the last", x.about(1) * 10 + x.about(2), 99999);
        x = Towns.at(9998, 4, 1);
        due("16 can't", x.played(Towns.tell(x, "walk 0;hour 16;walk 0;")), 1);
        due("15 did", x.about(1) * 10 + x.about(2), 99999);
        due("no walk behind it", x.of(0, 2), 1);
        due("none can", x.played(Towns.tell(x, "walk 0;hour 1;walk 0;")), 1);
        due("one walk", x.of(0, 2), 2);
        due("60 can't either", x.played(Towns.tell(x, "hour 60;")), 0);
        due("a step for each", x.undo(), 29);
        due("the walk", x.of(0, 2), 1);
        x.undo();
        x.undo();
        due("two hours less", x.about(2), 7);
    }
}
