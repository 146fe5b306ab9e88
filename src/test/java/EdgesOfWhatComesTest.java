/** Each sentence of the document that names an edge, on objects of its own: then, when, lack, comesTrue ... rests. */
public final class EdgesOfWhatComesTest {
    private static final Due D = new Due();

    public static void main(String[] args) {
        thenThisDay();
        thenAheadOfIt();
        thenTempersKept();
        thenStruck();
        thenByTheDay();
        whenAtItsEnds();
        whenNone();
        lackInThirtyDays();
        lackNeverFollowed();
        lackOnNoList();
        lackOfNobodyAndOfAll();
        comesTrueInJustSoManyDays();
        comesTrueOfOthers();
        comesTrueHowMany();
        comesTrueNone();
        comesTrueFromNowOn();
        readingsOneToFive();
        readingsOfNobody();
        readingsOfJustAll();
        rosterAtItsEnds();
        rosterExactly();
        rosterNone();
        rosterOfNobody();
        offAtItsEnds();
        offFewestThenLeast();
        offAsToldThen();
        offNone();
        offNotOnTheList();
        restsByIt();
        restsAsFollowedOrNot();
        nothingIsChanged();
        D.end();
    }

    private static void due(String call, long got, long want) {
        D.due(call, got, want);
    }

    // ---- then

    private static void thenThisDay() {
        D.sentence("THEN: the m-th DAY from now (0 .. 60; 0: this one)");
        WantedLater x = Towns.follow(Towns.of(3, 3, 23, 0, 30), 1);
        due("the ACT of this DAY, as FOLLOWED", x.then(0, 0, 0), 4);
        due("the TEMPER of this DAY", x.then(0, 0, 1), 23);
        due("the next one", x.then(0, 1, 1), 27);
        due("not FOLLOWED", x.then(1, 0, 0), 5);
        due("the 29th", x.then(1, 29, 1), 1);
        due("the 60th", x.then(1, 60, 1), 0);
        due("the 60th", x.then(0, 60, 1), 99);
        due("m -1", x.then(0, -1, 0), WantedLater.BAD);
        due("m 61", x.then(0, 61, 0), WantedLater.BAD);
        x.day(60);
        due("the 60th, as it comes", x.of(0, 1), 99);
        due("the 60th from then", x.then(0, 60, 0), 5);
    }

    private static void thenAheadOfIt() {
        D.sentence("THEN: the ACT of one; the TEMPER ahead of it");
        WantedLater x = Towns.follow(Towns.of(5, 0, 4), 1);
        int[] tempers = {4, 6, 8, 10, 12};
        int[] acts = {0, 1, 1, 1, 2};
        for (int m = 0; m < tempers.length; m++) {
            due("TEMPER, m " + m, x.then(0, m, 1), tempers[m]);
            due("ACT, m " + m, x.then(0, m, 0), acts[m]);
        }
    }

    private static void thenTempersKept() {
        D.sentence("THEN: as DAYS go by (0 to 99 kept)");
        WantedLater x = Towns.follow(Towns.of(5, 0, 0, 3, 30, 0, 30, 1, 30), 1 + 2);
        due("98 in 49 DAYS", x.then(0, 49, 1), 98);
        due("99 in 50", x.then(0, 50, 1), 99);
        due("99 in 60", x.then(0, 60, 1), 99);
        due("98 in 17 DAYS", x.then(1, 17, 1), 98);
        due("99 in 18", x.then(1, 18, 1), 99);
        due("99 in 19", x.then(1, 19, 1), 99);
        due("0 in 30 DAYS", x.then(2, 30, 1), 0);
        due("0 in 31", x.then(2, 31, 1), 0);
        due("then 0 is done", x.then(2, 31, 0), 0);
        due("a SAINT at 5", x.then(3, 25, 0), 0);
    }

    private static void thenStruck() {
        D.sentence("THEN: as DAYS go by (STRUCK: FOLLOWED no more)");
        WantedLater x = Towns.wanted(Towns.of(3, 0, 16, 3, 12), 3);
        int[] tempers = {16, 18, 20, 19, 18, 17};
        int[] acts = {2, 3, 3, 3, 3, 2};
        for (int m = 0; m < tempers.length; m++) {
            due("TEMPER, m " + m, x.then(0, m, 1), tempers[m]);
            due("ACT, m " + m, x.then(0, m, 0), acts[m]);
        }
        due("STRUCK this DAY: one turns to it, TEMPER", x.then(1, 0, 1), 12);
        due("ACT", x.then(1, 0, 0), 3);
        due("then he turns no more, TEMPER", x.then(1, 1, 1), 16);
        due("ACT", x.then(1, 1, 0), 2);
        due("TEMPER falls", x.then(1, 2, 1), 15);
        due("not so one on no LIST", Towns.follow(Towns.of(3, 3, 12), 1).then(0, 2, 1), 20);
    }

    private static void thenByTheDay() {
        D.sentence("THEN: by the number that the DAY will have");
        WantedLater x = Towns.of(3, 4, 0, 5, 30);
        x.day(2);
        int[] kisser = {0, 1, 0, 0, 1};
        int[] newOne = {0, 4, 0, 4, 0};
        for (int m = 0; m < kisser.length; m++) {
            due("a KISSER, DAY " + (2 + m), x.then(0, m, 0), kisser[m]);
            due("a NEW one, DAY " + (2 + m), x.then(1, m, 0), newOne[m]);
        }
    }

    // ---- when

    private static void whenAtItsEnds() {
        D.sentence("WHEN: in how many DAYS (1 .. 60) one is STRUCK");
        WantedLater x = Towns.wanted(Towns.of(3, 0, 18, 0, 17, 0, 0, 4, 1, 4, 0), 31);
        due("on this DAY: 1", x.when(0), 1);
        due("on the next: 2", x.when(1), 2);
        due("0 comes to 18 behind nine DAYS: 10", x.when(2), 10);
        due("a KISSER of 1 comes to 30 behind 29: 30", x.when(3), 30);
        due("a KISSER of 0 comes to 30 behind 30: 31, the most there is", x.when(4), 31);
        due("and so it comes: 30 DAYS", x.day(30), 1 + 2 + 4 + 8);
        due("and so it comes: the 31st", x.day(1), 16);
    }

    private static void whenNone() {
        D.sentence("WHEN: none");
        WantedLater x = Towns.of(3, 0, 30, 0, 30, 0, 30, 2, 30, 1, 29, 4, 0);
        Towns.list(x, 1 + 8 + 16);
        Towns.follow(x, 2 + 8 + 16);
        due("on THE LIST, without a FOLLOWER", x.when(0), WantedLater.NONE);
        due("FOLLOWED, on no LIST", x.when(1), WantedLater.NONE);
        due("neither", x.when(2), WantedLater.NONE);
        due("a DENTIST", x.when(3), WantedLater.NONE);
        due("a SAINT of 29", x.when(4), WantedLater.NONE);
        due("STATUS", x.status(0) + x.status(1) + x.status(2), 0);
        due("one who is not there", x.when(6), WantedLater.BAD);
        WantedLater y = Towns.wanted(Towns.of(3, 0, 30), 1);
        y.day(1);
        due("STRUCK already", y.when(0), WantedLater.NONE);
    }

    // ---- lack

    private static void lackInThirtyDays() {
        D.sentence("FOR LACK: on some of the next 30 DAYS, FOLLOWED on all of them");
        WantedLater x = Towns.of(3, 4, 1, 4, 0, 0, 17, 1, 29, 2, 17, 3, 12);
        due("on the 30th; not on the 31st; on the 2nd; a SAINT, a DENTIST never; on the 1st", x.lack(), 1 + 4 + 32);
    }

    private static void lackNeverFollowed() {
        D.sentence("FOR LACK: but on none, FOLLOWED never");
        WantedLater x = Towns.of(3, 0, 18, 0, 17, 5, 19, 5, 18, 2, 30);
        due("18 does it anyway, 17 not; a NEW one of 19 does it on DAY 1, of 18 not; a DENTIST does it anyway",
            x.lack(), 2 + 8);
        WantedLater y = Towns.of(1, 4, 0, 4, 6);
        y.day(1);
        due("KISSERS do it on DAY 3 anyway", y.lack(), 0);
    }

    private static void lackOnNoList() {
        D.sentence("FOR LACK: (on no LIST)");
        WantedLater x = Towns.of(3, 0, 17, 0, 18, 4, 1, 3, 12);
        int lacking = x.lack();
        due("on no LIST, FOLLOWED by none", lacking, 1 + 4 + 8);
        Towns.list(x, 15);
        due("all on THE LIST", x.lack(), lacking);
        Towns.follow(x, 15);
        due("and FOLLOWED", x.lack(), lacking);
        due("they stay so", x.count(2) + x.count(3), 8);
    }

    private static void lackOfNobodyAndOfAll() {
        D.sentence("FOR LACK: PEOPLE (bits)");
        due("nobody is there", new WantedLater().lack(), 0);
        due("all seven", Towns.of(5, 0, 29, 0, 29, 0, 29, 0, 29, 0, 29, 0, 29, 0, 29).lack(), 127);
        due("the seventh", Towns.of(5, 0, 30, 0, 30, 0, 30, 0, 30, 0, 30, 0, 30, 0, 29).lack(), 64);
    }

    // ---- comesTrue

    private static void comesTrueInJustSoManyDays() {
        D.sentence("TRUE in m (1 .. 30) DAYS: these would all be STRUCK in the next m DAYS");
        WantedLater x = Towns.of(3, 4, 1);
        due("a KISSER of 1, in 29: the empty set", x.comesTrue(29, 0), 1);
        due("in 30: he, too", x.comesTrue(30, 0), 2);
        due("a KISSER of 0, in 30: the empty set", Towns.of(3, 4, 0).comesTrue(30, 0), 1);
        WantedLater y = Towns.of(3, 0, 17);
        due("17, in 1", y.comesTrue(1, 0), 1);
        due("17, in 2", y.comesTrue(2, 0), 2);
        due("m 0", y.comesTrue(0, 0), WantedLater.BAD);
        due("m 31", y.comesTrue(31, 0), WantedLater.BAD);
    }

    private static void comesTrueOfOthers() {
        D.sentence("TRUE: and of all others none would do IT in them");
        WantedLater x = Towns.of(3, 0, 18, 0, 17);
        due("18 must be in it, in 1", x.comesTrue(1, 0), 1);
        due("the least", x.comesTrue(1, 1), 1);
        due("17 may be, in 2", x.comesTrue(2, 0), 2);
        WantedLater y = Towns.of(3, 5, 19, 0, 0);
        due("a NEW one does 0 on DAY 0: in 1 he is in none", y.comesTrue(1, 1), 0);
        due("in 1, the empty set alone", y.comesTrue(1, 0), 1);
        due("19 does it on DAY 1: in 2 he must be", y.comesTrue(2, 1), 1);
        due("in 2, his alone", y.comesTrue(2, 0), 1);
    }

    private static void comesTrueHowMany() {
        D.sentence("TRUE: how many sets; the least bits");
        WantedLater x = Towns.of(3, 0, 17, 0, 17, 0, 17, 0, 17, 0, 17, 0, 17, 0, 17);
        due("each of 128", x.comesTrue(2, 0), 128);
        due("the least is empty", x.comesTrue(2, 1), 0);
        due("in 1 the empty one alone", x.comesTrue(1, 0), 1);
        WantedLater y = Towns.of(3, 0, 17, 0, 18, 0, 17, 0, 0, 0, 0, 0, 0, 0, 18);
        due("two must, two may", y.comesTrue(2, 0), 4);
        due("the least: those who must", y.comesTrue(2, 1), 2 + 64);
        due("nobody is there: the empty set", new WantedLater().comesTrue(1, 0), 1);
        due("nobody is there: the least", new WantedLater().comesTrue(1, 1), 0);
    }

    private static void comesTrueNone() {
        D.sentence("TRUE: none");
        WantedLater x = Towns.of(3, 2, 18, 0, 17);
        due("a DENTIST does it, but never FOLLOWED: none", x.comesTrue(30, 0), 0);
        due("no least bits", x.comesTrue(30, 1), WantedLater.NONE);
        due("STATUS", x.status(0) + x.status(1) + x.status(2), 0);
    }

    private static void comesTrueFromNowOn() {
        D.sentence("TRUE: were just these on THE LIST and FOLLOWED from now on, nobody else FOLLOWED");
        WantedLater x = Towns.of(3, 3, 17, 0, 17);
        long sets = x.comesTrue(2, 0);
        due("both may be in it", sets, 4);
        Towns.follow(x, 3);
        due("one who turns, FOLLOWED now", x.comesTrue(2, 0), sets);
        Towns.list(x, 3);
        due("on THE LIST now", x.comesTrue(2, 0), sets);
        due("the least", x.comesTrue(2, 1), 0);
    }

    // ---- readings

    private static void readingsOneToFive() {
        D.sentence("READINGS: COUNTS (1 .. 5; bit 1 to 5)");
        int[] byAct = {0, 2, 2 + 4, 2 + 4 + 8, 2 + 4 + 8 + 16, 2 + 4 + 8 + 16 + 32};
        for (int act = 0; act <= 5; act++) {
            WantedLater x = Towns.of(3, 0, 6 * act);
            due("ACT " + act + ", on no LIST", x.readings(), 62 - byAct[act]);
            x.list(0, 1);
            due("ACT " + act + ", on THE LIST", x.readings(), byAct[act]);
        }
    }

    private static void readingsOfNobody() {
        D.sentence("READINGS: nobody on THE LIST: by which nobody does IT");
        due("nobody is there", new WantedLater().readings(), 62);
        due("all do nothing", Towns.of(3, 0, 5, 0, 0).readings(), 62);
        due("one does all", Towns.of(3, 0, 30, 0, 0).readings(), 0);
    }

    private static void readingsOfJustAll() {
        D.sentence("READINGS: just all those on THE LIST do IT on this DAY");
        WantedLater x = Towns.list(Towns.of(3, 0, 12, 0, 24, 3, 18), 2 + 4);
        due("ACTS 2, 4, 3", x.readings(), 8);
        x.follow(2, 1);
        due("he turns to 4", x.readings(), 8 + 16);
        x.list(2, 0);
        due("two do 4, one is on it", x.readings(), 0);
        Towns.list(x, 7);
        due("all three", x.readings(), 2 + 4);
        WantedLater y = Towns.list(Towns.of(3, 5, 30), 1);
        due("a NEW one on DAY 0", y.readings(), 0);
        y.day(1);
        due("on DAY 1, by 29", y.readings(), 2 + 4 + 8 + 16);
    }

    // ---- roster

    private static WantedLater onTheList(int many) {
        WantedLater x = Towns.of(3, 0, 0, 0, 0, 0, 0, 0, 0, 0, 0, 0, 0, 0, 0);
        return Towns.list(x, (1 << many) - 1);
    }

    private static void rosterAtItsEnds() {
        D.sentence("ROSTER: on d (0 .. 9) of the next n (1 .. 9) DAYS each");
        WantedLater x = onTheList(7);
        due("roster(1, 0)", x.roster(1, 0), 0);
        due("roster(9, 0)", x.roster(9, 0), 0);
        due("roster(1, 1)", x.roster(1, 1), 7);
        due("roster(9, 1)", x.roster(9, 1), 1);
        due("roster(9, 9)", x.roster(9, 9), 7);
        due("roster(9, 8)", x.roster(9, 8), 7);
        due("n 0", x.roster(0, 0), WantedLater.BAD);
        due("n 10", x.roster(10, 0), WantedLater.BAD);
        due("d -1", x.roster(1, -1), WantedLater.BAD);
        due("d 10", x.roster(1, 10), WantedLater.BAD);
    }

    private static void rosterExactly() {
        D.sentence("ROSTER: a FOLLOWER following one of them a DAY: the fewest FOLLOWERS");
        due("3 of 3 of 9 fill one's DAYS", onTheList(3).roster(9, 3), 1);
        due("3 of 4 of 9 do not", onTheList(3).roster(9, 4), 2);
        due("2 of 4 of 8 fill them", onTheList(2).roster(8, 4), 1);
        due("2 of 5 of 8 do not", onTheList(2).roster(8, 5), 2);
        due("7 of 4 of 9: 28 by 9", onTheList(7).roster(9, 4), 4);
        due("6 of 3 of 9: 18 by 9", onTheList(6).roster(9, 3), 2);
        due("1 of 9 of 9", onTheList(1).roster(9, 9), 1);
        due("5 of 2 of 3: 10 by 3", onTheList(5).roster(3, 2), 4);
    }

    private static void rosterNone() {
        D.sentence("ROSTER: none: d is more than n");
        WantedLater x = onTheList(2);
        for (int n = 1; n <= 8; n++) {
            due("d as n, " + n, x.roster(n, n), 2);
            due("d one more than n, " + n, x.roster(n, n + 1), WantedLater.NONE);
            due("d 9, n " + n, x.roster(n, 9), WantedLater.NONE);
        }
        due("STATUS", x.status(0) + x.status(1) + x.status(2), 0);
    }

    private static void rosterOfNobody() {
        D.sentence("ROSTER: all on THE LIST, if nobody is");
        due("none is needed", onTheList(0).roster(9, 9), 0);
        due("none is needed, nobody is there", new WantedLater().roster(1, 1), 0);
        due("d is more than n all the same", onTheList(0).roster(1, 2), WantedLater.NONE);
        WantedLater x = Towns.follow(onTheList(0), 127);
        due("FOLLOWED does not count", x.roster(1, 1), 0);
    }

    // ---- off

    private static void offAtItsEnds() {
        D.sentence("OFF: on some of the next n (1 .. 8) DAYS: the fewest DAYS by which he is STRUCK in these n");
        WantedLater x = Towns.list(Towns.of(5, 0, 16, 0, 15, 0, 30), 7);
        due("16 needs all 8", x.off(0, 8, 0), 8);
        due("which", x.off(0, 8, 1), 255);
        due("in 7 there is none", x.off(0, 7, 0), WantedLater.NONE);
        due("15 would need 9", x.off(1, 8, 0), WantedLater.NONE);
        due("30 needs this one", x.off(2, 1, 0), 1);
        due("bit 0: this one", x.off(2, 1, 1), 1);
        due("n 0", x.off(2, 0, 0), WantedLater.BAD);
        due("n 9", x.off(2, 9, 0), WantedLater.BAD);
    }

    private static void offFewestThenLeast() {
        D.sentence("OFF: the DAYS (of like ones the least bits)");
        WantedLater x = Towns.list(Towns.of(3, 0, 20, 0, 17), 3);
        due("20, 19, 18 would each do: the first", x.off(0, 8, 1), 1);
        due("17: the first and the second or third", x.off(1, 8, 1), 1 + 2);
        due("17: two", x.off(1, 8, 0), 2);
        WantedLater y = Towns.list(Towns.of(1, 4, 0), 1);
        y.day(1);
        due("a KISSER on DAY 1: the third or sixth", y.off(0, 8, 1), 4);
        due("a KISSER on DAY 1: one", y.off(0, 8, 0), 1);
        WantedLater z = Towns.list(Towns.of(1, 4, 18), 1);
        z.day(1);
        due("of 17: two DAYS in 2", z.off(0, 2, 1), 1 + 2);
        due("of 17: the third alone is fewer", z.off(0, 3, 1), 4);
    }

    private static void offAsToldThen() {
        D.sentence("OFF: (as told then, not as now)");
        WantedLater x = Towns.list(Towns.of(1, 4, 0, 0, 30), 3);
        x.day(2);
        due("a KISSER on DAY 2, FOLLOWED by none", x.off(0, 8, 1), 2);
        x.follow(0, 1);
        due("the same, FOLLOWED now", x.off(0, 8, 1), 2);
        due("how many, FOLLOWED now", x.off(0, 8, 0), 1);
        due("not by this DAY alone", x.off(0, 1, 0), WantedLater.NONE);
        x.follow(1, 1);
        due("FOLLOWED now is not enough", x.off(1, 1, 1), 1);
    }

    private static void offNone() {
        D.sentence("OFF: none");
        WantedLater x = Towns.wanted(Towns.of(5, 2, 30, 1, 30, 0, 0), 7);
        for (int p = 0; p < 3; p++) {
            due("a DENTIST, a SAINT, one of 0: how many", x.off(p, 8, 0), WantedLater.NONE);
            due("a DENTIST, a SAINT, one of 0: which", x.off(p, 8, 1), WantedLater.NONE);
        }
        due("STATUS", x.status(0) + x.status(1) + x.status(2), 0);
    }

    private static void offNotOnTheList() {
        D.sentence("off: NO: not on THE LIST");
        WantedLater x = Towns.follow(Towns.list(Towns.of(3, 0, 30, 0, 30), 1), 3);
        long digest = x.digest();
        due("one who is not", x.off(1, 8, 0), WantedLater.NO);
        due("STATUS NO", x.status(1), 1);
        due("nothing is changed", x.digest(), digest);
        due("BAD ahead of NO: n", x.off(1, 0, 0), WantedLater.BAD);
        due("BAD ahead of NO: what", x.off(1, 8, 2), WantedLater.BAD);
        due("STATUS NO", x.status(1), 1);
        due("one who is", x.off(0, 8, 0), 1);
        x.day(1);
        due("STRUCK, no more", x.off(0, 8, 0), WantedLater.NO);
    }

    // ---- rests

    private static void restsByIt() {
        D.sentence("RESTS: pairs that rest (if FOLLOWED he does IT; if IT is not done)");
        for (int counts = 1; counts <= 5; counts++) {
            WantedLater x = Towns.of(counts, 0, 6 * counts, 0, 6 * counts - 1, 0, 0);
            due("just IT by " + counts + ": ACT, FOLLOWED; nothing, not", x.rests(0), 1 + 8);
            due("just not: ACT, not; nothing, not", x.rests(1), 4 + 8);
            due("nothing at all: so, too", x.rests(2), 4 + 8);
            x.follow(0, 1);
            x.list(0, 1);
            x.follow(1, 1);
            due("FOLLOWED now, on THE LIST", x.rests(0), 1 + 8);
            due("FOLLOWED now", x.rests(1), 4 + 8);
        }
    }

    private static void restsAsFollowedOrNot() {
        D.sentence("RESTS: his ACT (as FOLLOWED or not)");
        WantedLater x = Towns.of(3, 3, 17, 2, 18, 5, 30, 4, 30);
        due("one who turns to IT if FOLLOWED", x.rests(0), 4 + 8);
        due("a DENTIST who does IT if not", x.rests(1), 1 + 8);
        due("a NEW one on DAY 0", x.rests(2), 4 + 8);
        due("a KISSER of 30", x.rests(3), 1 + 8);
        WantedLater followed = Towns.follow(Towns.of(3, 3, 17, 2, 18), 3);
        due("one who turns, FOLLOWED now", followed.rests(0), 4 + 8);
        due("a DENTIST, FOLLOWED now", followed.rests(1), 1 + 8);
        x.day(1);
        due("a NEW one on DAY 1", x.rests(2), 1 + 8);
        due("a KISSER of 29", x.rests(3), 4 + 8);
        WantedLater y = Towns.of(1, 4, 0);
        due("a kiss is IT on DAY 0", y.rests(0), 1 + 8);
        y.day(1);
        due("none on DAY 1", y.rests(0), 4 + 8);
    }

    private static void nothingIsChanged() {
        D.sentence("(Nothing is changed by these.)");
        WantedLater x = Towns.wanted(Towns.of(3, 0, 17, 3, 12, 5, 20, 4, 1), 11);
        x.day(1);
        long digest = x.digest();
        x.then(0, 60, 0);
        x.when(0);
        x.lack();
        x.comesTrue(30, 1);
        x.readings();
        x.roster(9, 4);
        x.off(0, 8, 0);
        x.rests(0);
        x.note(0, 1, 1, 1, 5);
        x.is(0);
        x.look(0, 9);
        x.source(0);
        x.source(1);
        x.years(5, 60);
        x.forget();
        due("digest()", x.digest(), digest);
        due("STATUS", x.status(0) + x.status(1) + x.status(2), 0);
        due("undo()", x.undo(), 0);
        due("TEMPER", x.of(0, 1), 17);
    }
}
