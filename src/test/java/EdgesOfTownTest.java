/** Each sentence of the document that names an edge, on objects of its own: a new object, town, one, type, clear, read. */
public final class EdgesOfTownTest {
    private static final Due D = new Due();
    private static final String SEVEN =
        "town 3;one 0 0;one 1 1;one 2 2;one 3 3;one 4 4;one 5 5;one 0 6;";

    public static void main(String[] args) {
        countsAtFirst();
        countsAndGreaterOnes();
        peopleAsTheyCome();
        kindsAndTempersAtTheirEnds();
        neitherAtFirst();
        newObjectCounts();
        newObjectAsked();
        townBeginsAnew();
        townLeaves();
        townOfNobodyAndOfSeven();
        anEighthOne();
        bytesAtTheirEnds();
        textIsFull();
        clearOfNothingAndOfAll();
        blanksBetween();
        figures();
        numbersAtTheirEnds();
        theWholeTextIsRead();
        itemsAreCounted();
        readTakesThePlace();
        readLeaves();
        faultLeavesAll();
        faultsOfWords();
        faultsOfTownAgain();
        faultsAheadOfTown();
        faultsOfAnEighthOne();
        faultsOfAThirdFigure();
        faultsOfNumbers();
        faultsOfOneNotThereYet();
        faultsOfForeignBytes();
        faultsOfTokensThatStandElsewhere();
        endsTooEarly();
        theFirstFaultIsTold();
        D.end();
    }

    private static void due(String call, long got, long want) {
        D.due(call, got, want);
    }

    // ---- COUNTS, PEOPLE

    private static void countsAtFirst() {
        D.sentence("COUNTS: the least ACT (3 at first) that is IT");
        WantedLater x = new WantedLater();
        for (int temper : new int[] {12, 17, 18, 24, 30}) {
            x.one(0, temper);
        }
        Towns.wanted(x, 31);
        due("ACTS 2, 2, 3, 4, 5: day(1)", x.day(1), 4 + 8 + 16);
    }

    private static void countsAndGreaterOnes() {
        D.sentence("COUNTS (1 .. 5); greater ones are, too");
        for (int counts = 1; counts <= 5; counts++) {
            WantedLater x = Towns.wanted(Towns.of(counts, 0, 0, 0, 6, 0, 12, 0, 18, 0, 24, 0, 30), 63);
            int itAndGreater = 63 >> counts << counts;
            due("ACTS 0 to 5 by COUNTS " + counts + ": day(1)", x.day(1), itAndGreater);
        }
        WantedLater y = Towns.wanted(Towns.of(1, 0, 5), 1);
        due("nothing is never IT", y.day(1), 0);
    }

    private static void peopleAsTheyCome() {
        D.sentence("PEOPLE 0 .. 6, as they come");
        WantedLater x = new WantedLater();
        for (int p = 0; p <= 6; p++) {
            due("of(" + p + ", 0) ahead of his coming", x.of(p, 0), WantedLater.BAD);
            due("one", x.one(p % 6, 30 - p), p);
            due("count(0)", x.count(0), p + 1);
        }
        for (int p = 0; p <= 6; p++) {
            due("of(" + p + ", 0)", x.of(p, 0), p % 6);
            due("of(" + p + ", 1)", x.of(p, 1), 30 - p);
        }
        due("of(7, 0)", x.of(7, 0), WantedLater.BAD);
    }

    private static void kindsAndTempersAtTheirEnds() {
        D.sentence("a KIND, a TEMPER (0 .. 30)");
        WantedLater x = new WantedLater();
        due("one(0, 0)", x.one(0, 0), 0);
        due("one(5, 30)", x.one(5, 30), 1);
        due("TEMPER 0", x.of(0, 1), 0);
        due("TEMPER 30", x.of(1, 1), 30);
        due("KIND 5", x.of(1, 0), 5);
        due("one(0, 31)", x.one(0, 31), WantedLater.BAD);
        due("one(0, -1)", x.one(0, -1), WantedLater.BAD);
        due("one(6, 0)", x.one(6, 0), WantedLater.BAD);
        due("one(-1, 0)", x.one(-1, 0), WantedLater.BAD);
        due("none of these has come", x.count(0), 2);
    }

    private static void neitherAtFirst() {
        D.sentence("on THE LIST or not, FOLLOWED or not (neither at first)");
        WantedLater x = Towns.wanted(Towns.of(3, 0, 30), 1);
        x.one(0, 30);
        due("of(1, 2)", x.of(1, 2), 0);
        due("of(1, 3)", x.of(1, 3), 0);
        Towns.wanted(x, 2);
        x.town(3);
        x.one(0, 30);
        x.one(0, 30);
        due("in a town begun anew, on THE LIST", x.count(2), 0);
        due("in a town begun anew, FOLLOWED", x.count(3), 0);
    }

    private static void newObjectCounts() {
        D.sentence("Promise 1: As told; nobody is there");
        WantedLater x = new WantedLater();
        for (int what = 0; what <= 7; what++) {
            due("count(" + what + ")", x.count(what), 0);
        }
        for (int what = 0; what <= 2; what++) {
            due("status(" + what + ")", x.status(what), 0);
        }
        due("of(0, 0)", x.of(0, 0), WantedLater.BAD);
        due("undo()", x.undo(), WantedLater.NO);
        due("from(0)", x.from(0), WantedLater.NO);
        due("from(1)", x.from(1), WantedLater.NO);
    }

    private static void newObjectAsked() {
        D.sentence("Promise 1: nobody is there, and all may be asked");
        WantedLater x = new WantedLater();
        due("clear()", x.clear(), 0);
        due("read()", x.read(), -10);
        due("day(60)", x.day(60), 0);
        due("lack()", x.lack(), 0);
        due("comesTrue(1, 0): the empty set", x.comesTrue(1, 0), 1);
        due("comesTrue(30, 1): the empty set", x.comesTrue(30, 1), 0);
        due("readings(): all", x.readings(), 2 + 4 + 8 + 16 + 32);
        due("roster(1, 1)", x.roster(1, 1), 0);
        due("forget()", x.forget(), 0);
        due("source(0)", x.source(0), 101);
        due("source(1)", x.source(1), 1);
        due("years(999999, 60)", x.years(999999, 60), 0);
        due("town(3)", x.town(3), 0);
    }

    private static void townBeginsAnew() {
        D.sentence("town: COUNTS, all else as at first");
        WantedLater x = Towns.wanted(Towns.of(1, 0, 30, 0, 30, 0, 6), 3);
        x.note(0, 1, 1, 1, 1);
        x.day(3);
        due("STRUCK ahead of it", x.count(4), 2);
        due("town(2): how many there were", x.town(2), 3);
        for (int what = 0; what <= 6; what++) {
            due("count(" + what + ")", x.count(what), 0);
        }
        due("undo()", x.undo(), WantedLater.NO);
        x.one(0, 11);
        x.one(0, 12);
        Towns.wanted(x, 3);
        due("COUNTS 2: ACTS 1, 2", x.day(1), 2);
        due("DAYS from 0 on", x.count(1), 1);
        due("no NOTES: is(0)", x.is(0), 63);
    }

    private static void townLeaves() {
        D.sentence("town: (but for IMAGES, THE TEXT, THE FRACTION, STATUS)");
        WantedLater x = Towns.list(Towns.of(3, 0, 30), 1);
        x.odds(0, 1, 4);
        x.image(0);
        Towns.type(x, "town 4;");
        x.undo();
        x.undo();
        x.town(0);
        due("town(5)", x.town(5), 1);
        due("THE FRACTION, above", x.part(0), 2);
        due("THE FRACTION, below", x.part(1), 5);
        due("STATUS BAD", x.status(0), 1);
        due("STATUS NO", x.status(1), 1);
        due("THE TEXT, how long", x.count(7), 7);
        due("THE TEXT", x.read(), 1);
        due("the IMAGE", x.from(0), 1);
        due("the IMAGE, PEOPLE", x.count(0), 1);
    }

    private static void townOfNobodyAndOfSeven() {
        D.sentence("town: how many PEOPLE there were");
        WantedLater x = new WantedLater();
        due("of nobody", x.town(1), 0);
        for (int p = 0; p < 7; p++) {
            x.one(0, 0);
        }
        due("refused", x.town(6), WantedLater.BAD);
        due("refused, they stay", x.count(0), 7);
        due("of seven", x.town(5), 7);
        due("of nobody again", x.town(5), 0);
    }

    private static void anEighthOne() {
        D.sentence("one: FULL: 7");
        WantedLater x = Towns.of(3, 0, 1, 0, 2, 0, 3, 0, 4, 0, 5, 0, 6);
        due("the 7th", x.one(0, 7), 6);
        long digest = x.digest();
        due("the 8th", x.one(0, 8), WantedLater.FULL);
        due("nothing is changed", x.digest(), digest);
        due("STATUS FULL", x.status(2), 1);
        due("still no 8th", x.of(7, 0), WantedLater.BAD);
    }

    // ---- THE TEXT

    private static void bytesAtTheirEnds() {
        D.sentence("type: A byte (0 .. 127)");
        WantedLater x = new WantedLater();
        due("type(0)", x.type(0), 1);
        due("type(127)", x.type(127), 2);
        due("type(-1)", x.type(-1), WantedLater.BAD);
        due("type(128)", x.type(128), WantedLater.BAD);
        due("type(256)", x.type(256), WantedLater.BAD);
        due("count(7)", x.count(7), 2);
        due("STATUS BAD", x.status(0), 3);
    }

    private static void textIsFull() {
        D.sentence("a TEXT (150 bytes at most)");
        WantedLater x = new WantedLater();
        for (int i = 1; i <= 150; i++) {
            due("byte " + i, x.type(i <= 6 ? "town 2".charAt(i - 1) : ' '), i);
        }
        long digest = x.digest();
        due("the 151st", x.type(';'), WantedLater.FULL);
        due("nothing is changed", x.digest(), digest);
        due("STATUS FULL", x.status(2), 1);
        due("nor is THE TEXT: read() ends too early", x.read(), -160);
        due("clear()", x.clear(), 150);
        due("then there is room", x.type('t'), 1);
    }

    private static void clearOfNothingAndOfAll() {
        D.sentence("clear: THE TEXT is empty: how many it had");
        WantedLater x = new WantedLater();
        due("of none", x.clear(), 0);
        Towns.type(x, "town 1;");
        due("of seven", x.clear(), 7);
        due("count(7)", x.count(7), 0);
        due("read()", x.read(), -10);
        x.type(' ');
        due("typed anew, from its first byte on", x.read(), -11);
    }

    // ---- ITEMS, TOKENS

    private static void blanksBetween() {
        D.sentence("blanks (32) between");
        WantedLater x = new WantedLater();
        due("one each", Towns.read(x, "town 2 ; one 3 7 ; list 0 ; follow 0 ;"), 4);
        due("many, ahead and behind, too", Towns.read(x, "   town   2  ;  one   3    7   ;   "), 2);
        due("KIND", x.of(0, 0), 3);
        due("TEMPER", x.of(0, 1), 7);
        due("none where TOKENS can't be taken as one", Towns.read(x, "town2;one0 30;list0;follow0;"), 4);
        due("TEMPER", x.of(0, 1), 30);
        due("on THE LIST", x.of(0, 2), 1);
        due("FOLLOWED", x.of(0, 3), 1);
    }

    private static void figures() {
        D.sentence("figures (1 or 2 are one number)");
        WantedLater x = new WantedLater();
        due("one figure", Towns.read(x, "town 5;one 5 9;list 0;"), 3);
        due("TEMPER 9", x.of(0, 1), 9);
        due("two figures", Towns.read(x, "town 05;one 05 19;list 00;follow 00;"), 4);
        due("KIND 05", x.of(0, 0), 5);
        due("TEMPER 19", x.of(0, 1), 19);
        due("list 00", x.of(0, 2), 1);
        due("follow 00", x.of(0, 3), 1);
        due("two figures aren't two numbers", Towns.read(x, "town 3;one 02;"), -10 - 13);
        due("apart they are", Towns.read(x, "town 3;one 1 2;"), 2);
    }

    private static void numbersAtTheirEnds() {
        D.sentence("a number as told, at its ends");
        WantedLater x = new WantedLater();
        due("COUNTS 1", Towns.read(x, "town 1;one 0 6;one 0 5;"), 3);
        due("COUNTS 1: lack() of 5 alone, 6 does IT anyway", x.lack(), 2);
        due("COUNTS 5", Towns.read(x, "town 5;one 0 30;one 0 29;"), 3);
        due("COUNTS 5: lack() of 29 alone", x.lack(), 2);
        due("KIND 0, TEMPER 0", Towns.read(x, "town 3;one 0 0;"), 2);
        due("KIND 5, TEMPER 30", Towns.read(x, "town 3;one 5 30;"), 2);
        due("TEMPER 30", x.of(0, 1), 30);
        due("seven, the last of them", Towns.read(x, SEVEN + "list 6;follow 6;"), 10);
        due("on THE LIST", Towns.who(x, 2), 64);
        due("FOLLOWED", Towns.who(x, 3), 64);
    }

    private static void theWholeTextIsRead() {
        D.sentence("150 bytes at most: all of these are read");
        WantedLater x = new WantedLater();
        String full = SEVEN + "list 0;list 1;list 2;list 3;list 4;list 5;list 6;follow 0;follow 6;";
        due("150 bytes, the last is ;", Towns.read(x, full + " ".repeat(149 - full.length()) + ";"), -10 - 149);
        due("150 bytes, the last is a blank", Towns.read(x, full + " ".repeat(150 - full.length())), 17);
        due("150 bytes, an ITEM ends by the last",
            Towns.read(x, " ".repeat(150 - full.length()) + full), 17);
        due("FOLLOWED by the last ITEM", Towns.who(x, 3), 65);
    }

    private static void itemsAreCounted() {
        D.sentence("read: how many ITEMS");
        WantedLater x = new WantedLater();
        due("town alone", Towns.read(x, "town 3;"), 1);
        due("town alone: nobody is there", x.count(0), 0);
        due("with a list told twice", Towns.read(x, "town 3;one 0 1;list 0;list 0;"), 4);
        due("on THE LIST once", x.count(2), 1);
        due("one behind a list", Towns.read(x, "town 3;one 0 1;list 0;one 0 2;list 1;follow 0;"), 6);
        due("on THE LIST", x.count(2), 2);
        due("FOLLOWED", x.count(3), 1);
        due("as many as there is room for: 20", Towns.read(x, "town 3;one 0 0;" + "list 0;".repeat(18)), 20);
    }

    private static void readTakesThePlace() {
        D.sentence("A TOWN that is read takes the place of all (DAY 0, STRUCK 0, NOTES none; nothing to undo)");
        WantedLater x = Towns.wanted(Towns.of(1, 1, 30, 1, 30, 1, 30), 5);
        x.day(2);
        x.note(1, 1, 1, 1, 1);
        due("STRUCK ahead of it", x.count(4), 2);
        due("read()", Towns.read(x, "town 4;one 0 24;one 0 23;follow 1;list 0;"), 5);
        int[] counts = {2, 0, 1, 1, 0, 0, 0};
        for (int what = 0; what < counts.length; what++) {
            due("count(" + what + ")", x.count(what), counts[what]);
        }
        due("undo()", x.undo(), WantedLater.NO);
        due("KIND", x.of(1, 0), 0);
        due("COUNTS 4: 24 does IT anyway, 23 for lack", x.lack(), 2);
        due("no third one", x.of(2, 0), WantedLater.BAD);
    }

    private static void readLeaves() {
        D.sentence("A TOWN that is read takes the place of all but IMAGES, THE TEXT, THE FRACTION, STATUS");
        WantedLater x = Towns.list(Towns.of(3, 0, 30), 1);
        x.odds(0, 1, 4);
        x.image(1);
        x.from(0);
        x.town(9);
        due("read()", Towns.read(x, "town 2;one 1 5;"), 2);
        due("THE FRACTION, above", x.part(0), 2);
        due("THE FRACTION, below", x.part(1), 5);
        due("STATUS BAD", x.status(0), 1);
        due("STATUS NO", x.status(1), 1);
        due("THE TEXT, how long", x.count(7), 15);
        due("THE TEXT, read once more", x.read(), 2);
        due("no other IMAGE", x.from(0), WantedLater.NO);
        due("the IMAGE", x.from(1), 1);
        due("the IMAGE, TEMPER", x.of(0, 1), 30);
    }

    // ---- FAULT

    /** Texts with the FAULT marked by ^ (its place in the text without it); none marked: the length. */
    private static void faults(String... texts) {
        for (String marked : texts) {
            String text = marked.replace("^", "");
            int fault = marked.indexOf('^') < 0 ? text.length() : marked.indexOf('^');
            WantedLater x = Towns.of(3, 0, 10);
            due("read() of '" + text + "'", Towns.read(x, text), -10 - fault);
            due("all stays behind '" + text + "'", x.of(0, 1), 10);
        }
    }

    private static void faultLeavesAll() {
        D.sentence("read: -10 less the FAULT: all stays");
        for (String text : new String[] {"", "x", "town 3;one 0 30;list 0;follow 0;!", "town 6;", "town 1;one 0 3"}) {
            WantedLater x = Towns.wanted(Towns.of(2, 0, 10, 0, 30), 3);
            x.day(2);
            x.note(0, 1, 1, 1, 1);
            x.clear();
            Towns.type(x, text);
            long digest = x.digest();
            due("a FAULT in '" + text + "'", x.read() <= -10 ? 1 : 0, 1);
            due("all stays", x.digest(), digest);
            due("COUNTS stay: rests(0), 14 is 2", x.rests(0), 9);
            due("no STATUS", x.status(0) + x.status(1) + x.status(2), 0);
            due("what may be undone stays", x.undo(), 1);
            due("what may be undone stays", x.undo(), 0);
            due("what may be undone stays: TEMPER", x.of(0, 1), 10);
        }
    }

    private static void faultsOfWords() {
        D.sentence("FAULT: a word that is none");
        faults("^down 3;", "^townz 3;", "^towna 3;", "^atown 3;", "^ztown 3;", "town 3;^ore 0 5;", "town 3;^ane 0 5;",
            "town 3;one 0 5;^mist 0;", "town 3;one 0 5;^hollow 0;", "town 3;^onea 0 5;", "town 3;^onez 0 5;",
            "^towns 3;", "^tow 3;", "^t", "^own 3;", "^townone 0 5;", "^twon 3;", "^a", "^z", "  ^word 3;",
            "town 3;^ones 0 5;", "town 3;^on 0 5;", "town 3;^o", "town 3;one 0 5;^lists 0;", "town 3;one 0 5;^lis 0;",
            "town 3;one 0 5;^lust 0;", "town 3;one 0 5;^follows 0;", "town 3;one 0 5;^fellow 0;",
            "town 3;one 0 5;^follo", "town 3;one 0 5;^oneone 0 5;", "town 3;one 0 5;^az;", "town 3;one 0 5;^za");
    }

    private static void faultsOfTownAgain() {
        D.sentence("FAULT: town again");
        faults("town 3;^town 3;", "town 3; ^town", "town 3;one 0 5;^town 3;", "town 3;one 0 5;list 0;follow 0;  ^town 1;");
    }

    private static void faultsAheadOfTown() {
        D.sentence("FAULT: anything ahead of it (town)");
        faults("^one 0 5;town 3;", "^list 0;", "^follow 0;", "^;town 3;", "^3;", "^3 town 3;", "  ^one 0 5;", " ^;", "^!");
    }

    private static void faultsOfAnEighthOne() {
        D.sentence("FAULT: an 8th one at its word");
        faults(SEVEN + "^one 0 5;", SEVEN + "  ^one", SEVEN + "^one 9 99;", SEVEN + "list 6;^one 0 0;");
        WantedLater x = new WantedLater();
        due("the 7th may come", Towns.read(x, SEVEN), 8);
        due("the 7th may come: count(0)", x.count(0), 7);
    }

    private static void faultsOfAThirdFigure() {
        D.sentence("FAULT: a third figure's number");
        faults("town ^003;", "town ^100;", "town ^0003;", "town 3;one ^000 5;", "town 3;one 0 ^005;", "town 3;one 0 ^100;",
            "town 3;one 0  ^0005;", "town 3;one 0 5;list ^000;", "town 3;one 0 5;follow ^000;", "town ^003");
    }

    private static void faultsOfNumbers() {
        D.sentence("FAULT: a number not as told");
        faults("town ^0;", "town ^00;", "town ^6;", "town ^06;", "town ^10;", "town ^99;", "town ^6",
            "town 3;one ^6 5;", "town 3;one ^06 5;", "town 3;one ^10 5;", "town 3;one ^6", "town 3;one 0 ^31;",
            "town 3;one 5 ^99;", "town 3;one 0 ^31");
    }

    private static void faultsOfOneNotThereYet() {
        D.sentence("FAULT: a number of one who is not there yet");
        faults("town 3;list ^0;", "town 3;follow ^0;", "town 3;one 0 5;list ^1;one 0 5;", "town 3;one 0 5;follow ^1;one 0 5;",
            "town 3;one 0 5;one 0 5;list ^2;", "town 3;one 0 5;list ^10;", SEVEN + "list ^7;", SEVEN + "follow ^7;",
            SEVEN + "follow ^07;");
        WantedLater x = new WantedLater();
        due("once he is there", Towns.read(x, "town 3;one 0 5;one 0 5;list 1;follow 1;"), 5);
    }

    private static void faultsOfForeignBytes() {
        D.sentence("FAULT: a byte that begins none");
        // The neighbours of a .. z, of the figures, of ; and of the blank, and the ends.
        for (int c : new int[] {0, 9, 10, 13, 31, 33, 45, 47, 58, 60, 65, 90, 94, 96, 123, 127}) {
            byteFault("ahead of all", "", c, "town 3;");
            byteFault("within a word", "to", c, "wn 3;", 0);
            byteFault("behind a word", "town", c, " 3;");
            byteFault("where a number is due", "town ", c, ";");
            byteFault("behind a number", "town 3", c, ";");
            byteFault("where an ITEM may begin", "town 3;", c, "one 0 5;");
            byteFault("behind all", "town 3;one 0 5;list 0; ", c, "");
        }
    }

    private static void byteFault(String where, String ahead, int c, String behind) {
        byteFault(where, ahead, c, behind, ahead.length());
    }

    private static void byteFault(String where, String ahead, int c, String behind, int fault) {
        WantedLater x = new WantedLater();
        due("byte " + c + " " + where, Towns.read(x, ahead + (char) c + behind), -10 - fault);
    }

    private static void faultsOfTokensThatStandElsewhere() {
        D.sentence("FAULT: the first TOKEN that can not stand there");
        faults("town ^;", "town ^town 3;", "town ^list", "town 3 ^3;", "town 3 ^one 0 5;", "town 3^one 0 5;", "town 3;^;",
            "town 3;^5;", "town 3;one ^;", "town 3;one ^list 0;", "town 3;one 0 ^;", "town 3;one 0^;", "town 3;one 0 ^x;",
            "town 3;one 0 5 ^5;", "town 3;one 0 5 ^list 0;", "town 3;one 0 5;list ^;", "town 3;one 0 5;list 0 ^0;",
            "town 3;one 0 5;list 0 ^follow 0;", "town 3;one 0 5;follow ^list 0;", "town 3;one 0 5;follow 0;^;");
    }

    private static void endsTooEarly() {
        D.sentence("FAULT: the TEXT's length, if it ends too early (an empty one, too)");
        faults("", " ", "     ", "town", "town  ", "town 3", "town 3 ", "town 3;one", "town 3;one 0", "town 3;one 0 ",
            "town 3;one 0 5", "town 3;one 0 5;list", "town 3;one 0 5;list 0", "town 3;one 0 5;follow   ",
            "town 3;one 0 5;follow 0  ");
    }

    private static void theFirstFaultIsTold() {
        D.sentence("FAULT: of the first such TOKEN");
        faults("^x y z", "town ^9 9;x", "town 3;one ^9 99;^", "town 3;list ^0 0;town 3;", "town ^003;one 9 9;",
            "^!town 9;", "town 3;^town 9");
    }
}
