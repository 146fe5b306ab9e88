/** Each sentence of the document that names an edge, on objects of its own: KINDS, list, follow, day, undo, of. */
public final class EdgesOfDaysTest {
    private static final int PLAIN = 0, SAINT = 1, DENTIST = 2, TURNS = 3, KISSER = 4, NEW = 5;
    private static final Due D = new Due();

    public static void main(String[] args) {
        plain();
        saint();
        dentist();
        turns();
        kisser();
        newOnes();
        moreTemper();
        oneLessTemper();
        noTemperIsKept();
        mostTemperIsKept();
        whoIsStruck();
        struckByTheActOfThatDay();
        onTheListNoMore();
        struckToo();
        oneDayMore();
        oneDayAndSixty();
        struckInAnyOfThem();
        struckOnceMore();
        listOfWhatWas();
        followOfWhatWas();
        undoOfEach();
        undoGivesBackTheStruck();
        undoOfWhatWasSoAlready();
        undoOfNothingElse();
        undoOfOneDayOfMany();
        undoEightAtMost();
        undoBehindOneThatComes();
        undoBehindTownAndRead();
        undoLeaves();
        undoOfNone();
        undoThenOn();
        ofEach();
        D.end();
    }

    private static void due(String call, long got, long want) {
        D.due(call, got, want);
    }

    // ---- KINDS

    /** The ACT on DAY d, FOLLOWED or not, of TEMPER t: by NOTES always, and by the day itself where one gets there. */
    private static void act(int kind, int d, int followed, int t, int want) {
        String of = "KIND " + kind + ", DAY " + d + ", FOLLOWED " + followed + ", TEMPER " + t;
        WantedLater x = Towns.of(3, kind, 0);
        for (int a = 0; a <= 5; a++) {
            x.forget();
            x.note(0, d, followed, t, a);
            due(of + ", a NOTE of ACT " + a, x.is(0) >> kind & 1, a == want ? 1 : 0);
        }
        if (t + d <= 30) {
            WantedLater y = Towns.oneOn(d, 3, kind, t);
            y.follow(0, followed);
            due(of + ", TEMPER", y.of(0, 1), t);
            due(of + ", the ACT", y.of(0, 4), want);
        }
    }

    /** Rows of TEMPER and ACT. */
    private static void acts(int kind, int d, int followed, int... rows) {
        for (int i = 0; i + 1 < rows.length; i += 2) {
            act(kind, d, followed, rows[i], rows[i + 1]);
        }
    }

    private static void plain() {
        D.sentence("PLAIN: t by 6 (cut), 5 at most");
        for (int followed = 0; followed <= 1; followed++) {
            acts(PLAIN, 0, followed, 0, 0, 5, 0, 6, 1, 11, 1, 12, 2, 17, 2, 18, 3, 23, 3, 24, 4, 29, 4, 30, 5);
            acts(PLAIN, 0, followed, 35, 5, 36, 5, 41, 5, 42, 5, 98, 5, 99, 5);
            acts(PLAIN, 1, followed, 5, 0, 6, 1);
        }
    }

    private static void saint() {
        D.sentence("SAINT: 2 less than PLAIN, 0 at least");
        for (int followed = 0; followed <= 1; followed++) {
            acts(SAINT, 0, followed, 0, 0, 5, 0, 6, 0, 11, 0, 12, 0, 17, 0, 18, 1, 23, 1, 24, 2, 29, 2, 30, 3);
            acts(SAINT, 3, followed, 0, 0, 36, 3, 42, 3, 99, 3);
        }
    }

    private static void dentist() {
        D.sentence("DENTIST: as PLAIN, but 0, if FOLLOWED");
        acts(DENTIST, 0, 0, 0, 0, 5, 0, 6, 1, 17, 2, 18, 3, 29, 4, 30, 5, 36, 5, 99, 5);
        acts(DENTIST, 0, 1, 0, 0, 5, 0, 6, 0, 17, 0, 18, 0, 29, 0, 30, 0, 36, 0, 99, 0);
    }

    private static void turns() {
        D.sentence("TURNS: as PLAIN, but, if FOLLOWED, 1 more, 5 at most");
        acts(TURNS, 0, 0, 0, 0, 5, 0, 6, 1, 23, 3, 24, 4, 29, 4, 30, 5, 99, 5);
        acts(TURNS, 0, 1, 0, 1, 5, 1, 6, 2, 23, 4, 24, 5, 29, 5, 30, 5, 36, 5, 99, 5);
    }

    private static void kisser() {
        D.sentence("KISSER: as SAINT, but 1 at least on DAYS that leave 0 by 3");
        for (int followed = 0; followed <= 1; followed++) {
            for (int d : new int[] {0, 3, 6, 99}) {
                acts(KISSER, d, followed, 0, 1, 11, 1, 12, 1, 17, 1, 18, 1, 24, 2, 30, 3, 99, 3);
            }
            for (int d : new int[] {1, 2, 4, 5, 97, 98}) {
                acts(KISSER, d, followed, 0, 0, 11, 0, 12, 0, 17, 0, 18, 1, 24, 2, 30, 3, 99, 3);
            }
        }
    }

    private static void newOnes() {
        D.sentence("NEW: as TURNS, but 0 on DAYS of an even number");
        for (int followed = 0; followed <= 1; followed++) {
            for (int d : new int[] {0, 2, 4, 98}) {
                acts(NEW, d, followed, 0, 0, 5, 0, 6, 0, 24, 0, 30, 0, 99, 0);
            }
        }
        for (int d : new int[] {1, 3, 99}) {
            acts(NEW, d, 0, 0, 0, 5, 0, 6, 1, 24, 4, 27, 4, 30, 5, 99, 5);
            acts(NEW, d, 1, 0, 1, 5, 1, 6, 2, 24, 5, 27, 5, 30, 5, 99, 5);
        }
    }

    // ---- TEMPER behind a DAY

    private static WantedLater oneOfEachKind(int temper) {
        return Towns.of(5, 0, temper, 1, temper, 2, temper, 3, temper, 4, temper, 5, temper);
    }

    private static void tempers(String when, WantedLater x, int... want) {
        for (int p = 0; p < want.length; p++) {
            due(when + ", TEMPER of " + p, x.of(p, 1), want[p]);
        }
    }

    private static void moreTemper() {
        D.sentence("how much more TEMPER behind a DAY on which one is FOLLOWED: 2; 0; 1 less; twice; 1 more; as TURNS");
        WantedLater x = Towns.follow(oneOfEachKind(10), 63);
        x.day(1);
        tempers("behind one DAY", x, 12, 10, 11, 14, 11, 14);
        x.day(1);
        tempers("behind two", x, 14, 10, 12, 18, 12, 18);
    }

    private static void oneLessTemper() {
        D.sentence("each other one 1 less");
        WantedLater x = Towns.list(oneOfEachKind(10), 63);
        x.day(1);
        tempers("not FOLLOWED", x, 9, 9, 9, 9, 9, 9);
        Towns.follow(x, 5);
        x.day(1);
        tempers("two are FOLLOWED", x, 11, 8, 10, 8, 8, 8);
    }

    private static void noTemperIsKept() {
        D.sentence("(0 to 99 kept): 0");
        WantedLater x = oneOfEachKind(1);
        x.day(1);
        tempers("1, then", x, 0, 0, 0, 0, 0, 0);
        x.day(1);
        tempers("0, then", x, 0, 0, 0, 0, 0, 0);
        x.day(60);
        tempers("0, long after", x, 0, 0, 0, 0, 0, 0);
        Towns.follow(x, 63);
        x.day(1);
        tempers("from 0 on", x, 2, 0, 1, 4, 1, 4);
    }

    private static void mostTemperIsKept() {
        D.sentence("(0 to 99 kept): 99");
        WantedLater x = Towns.follow(oneOfEachKind(30), 63);
        x.day(17);
        tempers("behind 17 DAYS", x, 64, 30, 47, 98, 47, 98);
        x.day(1);
        tempers("98 and 4", x, 66, 30, 48, 99, 48, 99);
        x.day(16);
        tempers("behind 34 DAYS", x, 98, 30, 64, 99, 64, 99);
        x.day(1);
        tempers("98 and 2", x, 99, 30, 65, 99, 65, 99);
        x.day(34);
        tempers("behind 69 DAYS", x, 99, 30, 99, 99, 99, 99);
        x.day(1);
        tempers("99 and 1", x, 99, 30, 99, 99, 99, 99);
        for (int p = 0; p < 6; p++) {
            x.follow(p, 0);
        }
        x.day(1);
        tempers("then falls", x, 98, 29, 98, 98, 98, 98);
    }

    // ---- a DAY

    private static void whoIsStruck() {
        D.sentence("who is on THE LIST, FOLLOWED, and does IT is STRUCK");
        WantedLater x = Towns.of(4, 0, 24, 0, 24, 0, 24, 0, 23, 2, 30, 3, 18);
        Towns.list(x, 1 + 2 + 8 + 16 + 32);
        Towns.follow(x, 1 + 4 + 8 + 16 + 32);
        due("all three; no FOLLOWER; no LIST; 3 is not IT; a DENTIST does 0; one turns to it", x.day(1), 1 + 32);
        due("STRUCK", x.count(4), 2);
    }

    private static void struckByTheActOfThatDay() {
        D.sentence("all do their ACTS (of TEMPER and DAY as ahead)");
        WantedLater x = Towns.wanted(Towns.of(3, 0, 17, 5, 30, 4, 0), 7);
        due("17 is 2, a NEW one does 0 on DAY 0", x.day(1), 0);
        due("19 is 3, a NEW one does it on DAY 1", x.day(1), 3);
    }

    private static void onTheListNoMore() {
        D.sentence("STRUCK: on THE LIST no more, FOLLOWED no more");
        WantedLater x = Towns.of(3, 0, 18, 0, 17, 0, 18, 0, 18);
        Towns.list(x, 1 + 2 + 4);
        Towns.follow(x, 1 + 2 + 8);
        due("day(1)", x.day(1), 1);
        due("on THE LIST", Towns.who(x, 2), 2 + 4);
        due("FOLLOWED", Towns.who(x, 3), 2 + 8);
    }

    private static void struckToo() {
        D.sentence("each who was FOLLOWED that DAY has more TEMPER as told (STRUCK or not)");
        WantedLater x = Towns.wanted(Towns.of(3, 0, 18, 1, 30, 3, 18, 4, 30), 15);
        due("day(1)", x.day(1), 15);
        tempers("FOLLOWED till STRUCK", x, 20, 30, 22, 31);
        x.day(1);
        tempers("FOLLOWED no more", x, 19, 29, 21, 30);
    }

    private static void oneDayMore() {
        D.sentence("The DAY is one more");
        WantedLater x = new WantedLater();
        x.day(1);
        due("behind one", x.count(1), 1);
        x.day(60);
        due("behind 61", x.count(1), 61);
        for (int i = 0; i < 100; i++) {
            x.day(60);
        }
        due("far behind", x.count(1), 6061);
    }

    private static void oneDayAndSixty() {
        D.sentence("day: n DAYS go by (1 .. 60)");
        WantedLater x = Towns.of(3, 0, 30);
        due("day(0)", x.day(0), WantedLater.BAD);
        due("day(61)", x.day(61), WantedLater.BAD);
        due("day(-1)", x.day(-1), WantedLater.BAD);
        due("no DAY has gone by", x.count(1), 0);
        due("no TEMPER is less", x.of(0, 1), 30);
        due("none may be undone", x.count(6), 0);
        due("day(1)", x.day(1), 0);
        due("TEMPER", x.of(0, 1), 29);
        due("day(60)", x.day(60), 0);
        due("TEMPER", x.of(0, 1), 0);
    }

    private static void struckInAnyOfThem() {
        D.sentence("day: who is STRUCK in them (bits)");
        WantedLater x = Towns.wanted(Towns.of(3, 0, 18, 0, 16, 0, 0, 1, 29, 0, 14, 0, 12, 0, 10), 127);
        due("on the first and second", x.day(2), 1 + 2);
        due("on the third to fifth", x.day(3), 16 + 32 + 64);
        due("on the 10th of all", x.day(5), 4);
        due("a SAINT never", x.day(60), 0);
        due("STRUCK", x.count(4), 6);
        WantedLater y = Towns.wanted(Towns.of(1, 0, 30, 0, 30, 0, 30, 0, 30, 0, 30, 0, 30, 0, 30), 127);
        due("all seven", y.day(1), 127);
        due("STRUCK", y.count(4), 7);
    }

    private static void struckOnceMore() {
        D.sentence("STRUCK: put on THE LIST again, one may be so again");
        WantedLater x = Towns.wanted(Towns.of(1, 0, 30), 1);
        due("day(60)", x.day(60), 1);
        Towns.wanted(x, 1);
        due("TEMPER 0: two, four, six are needed", x.day(3), 0);
        due("then", x.day(1), 1);
        due("each counts", x.count(4), 2);
    }

    // ---- list, follow

    private static void listOfWhatWas() {
        D.sentence("list: Whether one is on THE LIST (1, 0): whether one was");
        WantedLater x = Towns.of(3, 0, 0, 0, 0, 0, 0, 0, 0, 0, 0, 0, 0, 0, 0);
        for (int p : new int[] {0, 6, 3}) {
            due("not yet", x.list(p, 1), 0);
            due("already", x.list(p, 1), 1);
            due("just he", Towns.who(x, 2), 1 << p);
            due("taken off", x.list(p, 0), 1);
            due("off already", x.list(p, 0), 0);
            due("none", x.count(2), 0);
        }
        due("FOLLOWED is none by it", x.count(3), 0);
    }

    private static void followOfWhatWas() {
        D.sentence("follow: Whether one is FOLLOWED (1, 0): whether one was");
        WantedLater x = Towns.of(3, 0, 0, 0, 0, 0, 0, 0, 0, 0, 0, 0, 0, 0, 0);
        for (int p : new int[] {0, 6, 3}) {
            due("not yet", x.follow(p, 1), 0);
            due("already", x.follow(p, 1), 1);
            due("just he", Towns.who(x, 3), 1 << p);
            due("let go", x.follow(p, 0), 1);
            due("let go already", x.follow(p, 0), 0);
            due("none", x.count(3), 0);
        }
        due("on THE LIST is none by it", x.count(2), 0);
    }

    // ---- undo

    private static void undoOfEach() {
        D.sentence("UNDO: TEMPERS, THE LIST, FOLLOWED, STRUCK, the DAY as ahead of the last DAY gone by, LIST, FOLLOW told");
        WantedLater x = Towns.of(3, 0, 18, 3, 9);
        long[] digests = new long[5];
        digests[0] = x.digest();
        x.list(0, 1);
        digests[1] = x.digest();
        x.follow(0, 1);
        digests[2] = x.digest();
        due("STRUCK", x.day(1), 1);
        digests[3] = x.digest();
        x.list(0, 0);
        due("may be undone", x.count(6), 4);
        due("undo() of LIST that was so already: the DAY", x.undo(), 1);
        due("as ahead of it", x.digest(), digests[3]);
        due("undo() of the DAY: the DAY", x.undo(), 0);
        due("as ahead of it", x.digest(), digests[2]);
        due("STRUCK", x.count(4), 0);
        due("TEMPER", x.of(0, 1), 18);
        due("TEMPER", x.of(1, 1), 9);
        due("on THE LIST", x.of(0, 2), 1);
        due("FOLLOWED", x.of(0, 3), 1);
        due("undo() of FOLLOW: the DAY", x.undo(), 0);
        due("as ahead of it", x.digest(), digests[1]);
        due("undo() of LIST: the DAY", x.undo(), 0);
        due("as ahead of it", x.digest(), digests[0]);
        due("none is left", x.undo(), WantedLater.NO);
    }

    private static void undoGivesBackTheStruck() {
        D.sentence("UNDO: STRUCK, the DAY as ahead");
        WantedLater x = Towns.wanted(Towns.of(3, 0, 18, 0, 18, 0, 14, 0, 0), 15);
        due("day(1)", x.day(1), 3);
        due("day(1)", x.day(1), 0);
        due("day(1)", x.day(1), 4);
        due("STRUCK", x.count(4), 3);
        int[] struck = {0, 2, 2};
        int[] wanted = {15, 12, 12};
        for (int day = 2; day >= 0; day--) {
            due("undo()", x.undo(), day);
            due("count(1)", x.count(1), day);
            due("STRUCK", x.count(4), struck[day]);
            due("on THE LIST", Towns.who(x, 2), wanted[day]);
            due("FOLLOWED", Towns.who(x, 3), wanted[day]);
        }
        due("and so again", x.day(3), 7);
    }

    private static void undoOfWhatWasSoAlready() {
        D.sentence("UNDO: LIST, FOLLOW told, also if it was so already");
        WantedLater x = Towns.of(3, 0, 18);
        x.list(0, 0);
        due("LIST 0, off already", x.count(6), 1);
        x.follow(0, 0);
        due("FOLLOW 0, let go already", x.count(6), 2);
        x.follow(0, 1);
        x.follow(0, 1);
        due("FOLLOW 1, twice", x.count(6), 4);
        x.undo();
        due("one undone: FOLLOWED still", x.of(0, 3), 1);
        x.undo();
        due("two undone", x.of(0, 3), 0);
    }

    private static void undoOfNothingElse() {
        D.sentence("UNDO: no other call may be undone, nor ends what may be");
        WantedLater x = Towns.list(Towns.of(3, 0, 18, 0, 18), 1);
        x.day(1);
        x.note(0, 1, 1, 1, 1);
        x.forget();
        Towns.type(x, "town 3");
        x.read();
        x.clear();
        x.odds(0, 8, 5);
        x.years(9, 60);
        x.off(0, 8, 1);
        x.image(0);
        x.town(0);
        x.one(0, 99);
        due("count(6)", x.count(6), 2);
        due("undo()", x.undo(), 0);
        due("on THE LIST", x.of(0, 2), 1);
        due("undo()", x.undo(), 0);
        due("on THE LIST", x.of(0, 2), 0);
        due("undo()", x.undo(), WantedLater.NO);
    }

    private static void undoOfOneDayOfMany() {
        D.sentence("day: each of which may be undone");
        WantedLater x = Towns.of(3, 0, 30);
        x.day(3);
        due("count(6)", x.count(6), 3);
        for (int day = 2; day >= 0; day--) {
            due("undo()", x.undo(), day);
            due("count(1)", x.count(1), day);
            due("TEMPER", x.of(0, 1), 30 - day);
            due("count(6)", x.count(6), day);
        }
        due("undo()", x.undo(), WantedLater.NO);
    }

    private static void undoEightAtMost() {
        D.sentence("UNDO: (8 at most)");
        WantedLater x = Towns.of(3, 0, 30);
        x.day(7);
        due("seven", x.count(6), 7);
        x.list(0, 1);
        due("eight", x.count(6), 8);
        x.follow(0, 1);
        due("not nine", x.count(6), 8);
        x.follow(0, 0);
        due("not ten", x.count(6), 8);
        int[] days = {7, 7, 7, 6, 5, 4, 3, 2};
        for (int i = 0; i < days.length; i++) {
            due("undo() " + i, x.undo(), days[i]);
        }
        due("the ninth", x.undo(), WantedLater.NO);
        due("the first two DAYS stay", x.of(0, 1), 28);
        WantedLater y = new WantedLater();
        y.day(60);
        due("of 60 DAYS eight", y.count(6), 8);
        for (int day = 59; day >= 52; day--) {
            due("undo()", y.undo(), day);
        }
        due("the ninth", y.undo(), WantedLater.NO);
        due("the DAY stays", y.count(1), 52);
    }

    private static void undoBehindOneThatComes() {
        D.sentence("UNDO: behind one that comes none may be");
        WantedLater x = Towns.of(3, 0, 30);
        x.day(4);
        due("one refused as BAD", x.one(0, 31), WantedLater.BAD);
        due("they may be undone still", x.count(6), 4);
        due("one comes", x.one(0, 5), 1);
        due("count(6)", x.count(6), 0);
        due("undo()", x.undo(), WantedLater.NO);
        due("the DAY stays", x.count(1), 4);
        due("TEMPER stays", x.of(0, 1), 26);
        x.list(1, 1);
        due("what is told behind it may be", x.count(6), 1);
        for (int p = 2; p < 7; p++) {
            x.one(0, 5);
        }
        x.day(2);
        due("one refused as FULL", x.one(0, 5), WantedLater.FULL);
        due("they may be undone still", x.count(6), 2);
        due("undo()", x.undo(), 5);
    }

    private static void undoBehindTownAndRead() {
        D.sentence("UNDO: nothing to undo behind town, nor behind a TOWN that is read");
        WantedLater x = Towns.of(3, 0, 30);
        x.day(4);
        due("a town refused", x.town(0), WantedLater.BAD);
        due("they may be undone still", x.count(6), 4);
        due("a FAULT", Towns.read(x, "town 3;x"), -17);
        due("they may be undone still", x.count(6), 4);
        due("town(3)", x.town(3), 1);
        due("undo() behind town", x.undo(), WantedLater.NO);
        x.day(4);
        due("read()", Towns.read(x, "town 3;"), 1);
        due("undo() behind read", x.undo(), WantedLater.NO);
    }

    private static void undoLeaves() {
        D.sentence("UNDO: all else stays (COUNTS, PEOPLE, NOTES, IMAGES, THE TEXT, THE FRACTION, STATUS)");
        WantedLater x = Towns.list(Towns.of(2, 0, 12, 0, 11), 3);
        x.day(1);
        x.note(0, 1, 1, 1, 1);
        x.note(1, 2, 1, 2, 2);
        x.odds(0, 0, 0);
        x.odds(0, 2, 5);
        x.image(1);
        Towns.type(x, "town 3;");
        x.town(0);
        due("undo()", x.undo(), 0);
        due("PEOPLE", x.count(0), 2);
        due("NOTES", x.count(5), 2);
        due("THE TEXT", x.count(7), 7);
        due("THE FRACTION, below", x.part(1), 4);
        due("STATUS", x.status(0), 1);
        due("COUNTS 2: rests of 12 and of 11", x.rests(0) * 100 + x.rests(1), 912);
        due("the IMAGE", x.from(1), 1);
        due("the IMAGE, its DAY", x.count(1), 1);
        x.forget();
        due("undo()", x.undo(), 0);
        due("NOTES forgotten stay so", x.count(5), 0);
    }

    private static void undoOfNone() {
        D.sentence("undo: NO: none may be");
        WantedLater x = Towns.of(3, 0, 30);
        long digest = x.digest();
        due("at first", x.undo(), WantedLater.NO);
        due("nothing is changed", x.digest(), digest);
        due("STATUS NO", x.status(1), 1);
        x.day(1);
        due("once", x.undo(), 0);
        due("not twice", x.undo(), WantedLater.NO);
        due("STATUS NO", x.status(1), 2);
        due("what is refused is not to be undone", x.list(0, 2), WantedLater.BAD);
        due("nor by follow", x.follow(1, 1), WantedLater.BAD);
        due("nor by day", x.day(0), WantedLater.BAD);
        due("none", x.count(6), 0);
    }

    private static void undoThenOn() {
        D.sentence("undo: then what is told anew may be undone");
        WantedLater x = Towns.of(3, 0, 30);
        x.day(10);
        x.undo();
        x.undo();
        due("six are left", x.count(6), 6);
        x.list(0, 1);
        due("seven", x.count(6), 7);
        x.day(2);
        due("eight", x.count(6), 8);
        due("undo()", x.undo(), 9);
        due("undo()", x.undo(), 8);
        due("undo() of LIST", x.undo(), 8);
        due("off THE LIST", x.of(0, 2), 0);
        due("undo()", x.undo(), 7);
        due("TEMPER", x.of(0, 1), 23);
    }

    // ---- of

    private static void ofEach() {
        D.sentence("of: KIND (0), TEMPER (1), on THE LIST (2), FOLLOWED (3), the ACT today (4)");
        WantedLater x = Towns.of(3, 5, 30, 0, 29, 2, 6);
        x.list(1, 1);
        x.follow(2, 1);
        int[][] rows = {{5, 30, 0, 0, 0}, {0, 29, 1, 0, 4}, {2, 6, 0, 1, 0}};
        int[][] behind = {{5, 29, 0, 0, 4}, {0, 28, 1, 0, 4}, {2, 7, 0, 1, 0}};
        for (int p = 0; p < 3; p++) {
            for (int what = 0; what <= 4; what++) {
                due("of(" + p + ", " + what + ")", x.of(p, what), rows[p][what]);
            }
        }
        x.day(1);
        for (int p = 0; p < 3; p++) {
            for (int what = 0; what <= 4; what++) {
                due("behind a DAY, of(" + p + ", " + what + ")", x.of(p, what), behind[p][what]);
            }
        }
        due("of(0, 5)", x.of(0, 5), WantedLater.BAD);
        due("of(0, -1)", x.of(0, -1), WantedLater.BAD);
        due("of(3, 0)", x.of(3, 0), WantedLater.BAD);
        due("of(-1, 0)", x.of(-1, 0), WantedLater.BAD);
    }
}
