import java.math.BigInteger;

/** Each sentence of the document that names an edge, on objects of its own: note, forget, is, look, source, odds, years. */
public final class EdgesOfWhatHeDidTest {
    private static final Due D = new Due();

    public static void main(String[] args) {
        notesAsTheyCome();
        aSeventhNote();
        notesAtTheirEnds();
        forgetNoneAndAll();
        isByNoNotes();
        isByAllNotes();
        isOfHisOwnNotes();
        isByNone();
        lookOfEachWay();
        lookOfLikeOnes();
        lookOfAllKinds();
        lookOfTempersAtTheirEnds();
        lookOfNoKind();
        sourceAtTheEndsOfV();
        sourceOfJustThose();
        sourceOfNobody();
        sourceOfEachKind();
        fractionAtFirst();
        fractionInLowestTerms();
        oddsOfNoDays();
        oddsOfNoneAndOfTen();
        oddsOfEightDays();
        oddsApart();
        oddsAsToldThen();
        oddsNotOnTheList();
        yearsOfNoDays();
        yearsOfASeedAtItsEnds();
        yearsInOrder();
        yearsFollowedElseNot();
        yearsBySixtyDays();
        D.end();
    }

    private static void due(String call, long got, long want) {
        D.due(call, got, want);
    }

    // ---- NOTES

    private static void notesAsTheyCome() {
        D.sentence("NOTES 0 .. 5, as they come");
        WantedLater x = Towns.of(3, 0, 0, 0, 0);
        long none = x.digest();
        for (int i = 1; i <= 6; i++) {
            due("note: how many there are", x.note(i % 2, i, 1, i, 0), i);
            due("count(5)", x.count(5), i);
        }
        due("they show in digest()", x.digest() == none ? 1 : 0, 0);
    }

    private static void aSeventhNote() {
        D.sentence("note: FULL: 6");
        WantedLater x = Towns.of(3, 0, 18);
        for (int i = 0; i < 6; i++) {
            x.note(0, 1, 0, 18, 3);
        }
        long digest = x.digest();
        due("the 7th", x.note(0, 1, 0, 18, 0), WantedLater.FULL);
        due("nothing is changed", x.digest(), digest);
        due("is(0): it is not kept", x.is(0), 1 + 4 + 8 + 32);
        due("STATUS FULL", x.status(2), 1);
        due("forget()", x.forget(), 6);
        due("then there is room", x.note(0, 0, 0, 0, 0), 1);
    }

    private static void notesAtTheirEnds() {
        D.sentence("on DAY d (0 .. 99), FOLLOWED (1) or not (0), of TEMPER t (0 .. 99), one did an ACT a");
        WantedLater x = Towns.of(3, 0, 0, 0, 0);
        due("each at its least", x.note(0, 0, 0, 0, 0), 1);
        due("each at its most", x.note(1, 99, 1, 99, 5), 2);
        int[][] beyond = {{-1, 9, 0, 9, 0}, {2, 9, 0, 9, 0}, {0, -1, 0, 9, 0}, {0, 100, 0, 9, 0}, {0, 9, -1, 9, 0},
            {0, 9, 2, 9, 0}, {0, 9, 0, -1, 0}, {0, 9, 0, 100, 0}, {0, 9, 0, 9, -1}, {0, 9, 0, 9, 6}};
        for (int[] n : beyond) {
            due("beyond", x.note(n[0], n[1], n[2], n[3], n[4]), WantedLater.BAD);
        }
        due("none of these is kept", x.count(5), 2);
        due("DAY 0, not FOLLOWED, TEMPER 0, nothing: all but a KISSER", x.is(0), 63 - 16);
        due("DAY 99, FOLLOWED, TEMPER 99, arson: PLAIN, TURNS, NEW", x.is(1), 1 + 8 + 32);
    }

    private static void forgetNoneAndAll() {
        D.sentence("forget: No NOTES: how many there were");
        WantedLater x = Towns.of(3, 0, 18);
        due("of none", x.forget(), 0);
        for (int i = 1; i <= 6; i++) {
            x.note(0, 1, 0, 18, 5);
        }
        due("of six", x.forget(), 6);
        due("count(5)", x.count(5), 0);
        due("of none again", x.forget(), 0);
        due("is(0)", x.is(0), 63);
    }

    // ---- is

    private static void isByNoNotes() {
        D.sentence("IS: without NOTES each KIND");
        WantedLater x = Towns.of(3, 0, 18, 5, 0);
        due("is(0)", x.is(0), 63);
        due("is(1)", x.is(1), 63);
        x.note(1, 0, 0, 18, 5);
        due("NOTES of another", x.is(0), 63);
    }

    private static void isByAllNotes() {
        D.sentence("IS: KINDS (bits) by which all NOTES of it are so");
        WantedLater x = Towns.of(3, 3, 18);
        x.note(0, 1, 0, 18, 3);
        due("PLAIN, DENTIST, TURNS, NEW", x.is(0), 1 + 4 + 8 + 32);
        x.note(0, 1, 1, 18, 4);
        due("TURNS, NEW", x.is(0), 8 + 32);
        x.note(0, 2, 0, 18, 3);
        due("TURNS", x.is(0), 8);
        x.note(0, 2, 0, 18, 3);
        x.note(0, 2, 1, 18, 4);
        x.note(0, 98, 1, 99, 5);
        due("TURNS by six", x.is(0), 8);
        x.forget();
        for (int i = 0; i < 5; i++) {
            x.note(0, 1, 0, 0, 0);
        }
        due("five that fit each", x.is(0), 63);
        x.note(0, 0, 0, 0, 1);
        due("the sixth decides", x.is(0), 16);
    }

    private static void isOfHisOwnNotes() {
        D.sentence("IS: all NOTES of it (of no other)");
        WantedLater x = Towns.of(3, 0, 0, 0, 0, 0, 0, 0, 0, 0, 0, 0, 0, 0, 0);
        x.note(6, 0, 0, 0, 1);
        x.note(0, 1, 0, 18, 1);
        x.note(6, 0, 0, 18, 1);
        due("of 6", x.is(6), 16);
        due("of 0", x.is(0), 2 + 16);
        due("of 5", x.is(5), 63);
    }

    private static void isByNone() {
        D.sentence("IS: no KIND");
        WantedLater x = Towns.of(3, 0, 18);
        x.note(0, 0, 0, 18, 5);
        due("18 is never arson", x.is(0), 0);
        WantedLater y = Towns.of(3, 0, 18);
        y.note(0, 1, 0, 18, 3);
        y.note(0, 1, 0, 18, 1);
        due("one DAY, two ACTS", y.is(0), 0);
    }

    // ---- look

    private static void lookOfEachWay() {
        D.sentence("LOOK of TEMPER t: 6 for FOLLOWED (0, if not) and a DAY 0 to 5, by which the most that do alike are fewest");
        WantedLater x = Towns.of(3, 0, 0, 0, 0, 0, 0, 0, 0, 0, 0);
        x.note(0, 0, 1, 6, 1);
        due("PLAIN, KISSER are left", x.is(0), 1 + 16);
        due("of 6: DAY 0 both a kiss, DAY 1 apart", x.look(0, 6), 1);
        due("of 0: DAY 0 apart", x.look(0, 0), 0);
        x.note(1, 3, 0, 6, 1);
        x.note(1, 2, 1, 0, 0);
        due("PLAIN, DENTIST, KISSER, NEW are left", x.is(1), 1 + 4 + 16 + 32);
        due("of 6: three alike on DAYS 0 and 1, two and two on DAY 2", x.look(1, 6), 2);
        x.note(2, 2, 0, 6, 0);
        due("SAINT, KISSER, NEW are left", x.is(2), 2 + 16 + 32);
        due("of 12: all apart on DAY 3", x.look(2, 12), 3);
        due("of 6: all apart FOLLOWED on DAY 3", x.look(2, 6), 6 + 3);
        x.note(3, 0, 0, 12, 2);
        due("PLAIN, DENTIST, TURNS are left", x.is(3), 1 + 4 + 8);
        due("of 17: all apart FOLLOWED on DAY 0", x.look(3, 17), 6);
        x.note(4, 0, 0, 6, 0);
        due("SAINT, NEW are left", x.is(4), 2 + 32);
        due("of 0: apart FOLLOWED on DAY 1", x.look(4, 0), 6 + 1);
        x.day(1);
        due("DAYS 0 to 5, whatever DAY it is", x.look(2, 12), 3);
        due("TEMPER t, whatever TEMPER he is of", x.look(4, 0), 6 + 1);
    }

    private static void lookOfLikeOnes() {
        D.sentence("LOOK: of like ones the least");
        WantedLater x = Towns.of(3, 0, 0, 0, 0);
        x.note(0, 1, 1, 18, 4);
        x.note(0, 2, 0, 18, 3);
        due("TURNS alone", x.is(0), 8);
        due("one KIND does alike by each way", x.look(0, 50), 0);
        x.note(1, 0, 0, 12, 2);
        due("PLAIN, DENTIST, TURNS of 0: two of three alike FOLLOWED, on each DAY", x.look(1, 0), 6);
    }

    private static void lookOfAllKinds() {
        D.sentence("LOOK: these KINDS, if all are left");
        WantedLater x = Towns.of(3, 0, 0);
        due("of 14: two of six alike, FOLLOWED on DAY 3", x.look(0, 14), 9);
        due("of 18: ACTS 3, 1, 3, 3, 1, 0 on DAY 0; 3, 1, 0, 4, 1, 0 FOLLOWED", x.look(0, 18), 6);
    }

    private static void lookOfTempersAtTheirEnds() {
        D.sentence("LOOK of TEMPER t (0 .. 99)");
        WantedLater x = Towns.of(3, 0, 0);
        due("of 0: ACTS 0, 0, 0, 1, 1, 1 FOLLOWED on DAY 3", x.look(0, 0), 9);
        due("of 99: ACTS 5, 3, 0, 5, 3, 0 FOLLOWED on DAY 0", x.look(0, 99), 6);
        due("of -1", x.look(0, -1), WantedLater.BAD);
        due("of 100", x.look(0, 100), WantedLater.BAD);
    }

    private static void lookOfNoKind() {
        D.sentence("LOOK: none: no KIND");
        WantedLater x = Towns.of(3, 0, 0, 0, 0);
        x.note(0, 0, 0, 0, 5);
        due("none is left", x.look(0, 0), WantedLater.NONE);
        due("of another all are", x.look(1, 14), 9);
        due("STATUS", x.status(0) + x.status(1) + x.status(2), 0);
    }

    // ---- source

    private static void sourceAtTheEndsOfV() {
        D.sentence("SOURCE: how many v of 0 to 100");
        WantedLater x = Towns.of(3, 0, 0);
        due("0, on no LIST: v of 1 to 100", x.source(0), 100);
        x.list(0, 1);
        due("0, on THE LIST: v of 0", x.source(0), 1);
        WantedLater y = Towns.follow(Towns.of(3, 3, 30), 1);
        y.day(18);
        due("99, on no LIST: v of 100", y.source(0), 1);
        y.list(0, 1);
        due("99, on THE LIST: v of 0 to 99", y.source(0), 100);
    }

    private static void sourceOfJustThose() {
        D.sentence("SOURCE: by which just those of TEMPER v or more are on THE LIST");
        WantedLater x = Towns.list(Towns.of(3, 0, 10, 0, 20, 0, 15), 2);
        due("v of 16 to 20", x.source(0), 5);
        x.list(2, 1);
        due("v of 11 to 15", x.source(0), 5);
        x.list(1, 0);
        due("20 is missing", x.source(0), 0);
        x.list(2, 0);
        due("nobody: v of 21 to 100", x.source(0), 80);
        Towns.list(x, 7);
        due("all: v of 0 to 10", x.source(0), 11);
        WantedLater y = Towns.list(Towns.of(3, 0, 10, 1, 10), 1);
        due("like TEMPERS, one on it", y.source(0), 0);
    }

    private static void sourceOfNobody() {
        D.sentence("SOURCE: nobody is there");
        due("each v", new WantedLater().source(0), 101);
        due("each KIND", new WantedLater().source(1), 1);
    }

    private static void sourceOfEachKind() {
        D.sentence("SOURCE: of each KIND that all who are of it are on it, or none (1, 0)");
        WantedLater x = Towns.of(3, 0, 1, 5, 2, 0, 3, 5, 4, 2, 5);
        due("nobody is on it", x.source(1), 1);
        x.list(0, 1);
        due("one PLAIN one of two", x.source(1), 0);
        x.list(2, 1);
        due("both PLAIN ones", x.source(1), 1);
        x.list(3, 1);
        due("one NEW one of two, the last", x.source(1), 0);
        x.list(1, 1);
        due("both NEW ones", x.source(1), 1);
        x.list(4, 1);
        due("all", x.source(1), 1);
    }

    // ---- odds

    private static void fraction(String call, WantedLater x, long above, long below) {
        due(call + ", above", x.part(0), above);
        due(call + ", below", x.part(1), below);
    }

    private static void fractionAtFirst() {
        D.sentence("THE FRACTION is 0 by 1 at first");
        WantedLater x = new WantedLater();
        fraction("a new object", x, 0, 1);
        x.odds(0, 0, 0);
        fraction("behind ODDS refused", x, 0, 1);
        due("part(2)", x.part(2), WantedLater.BAD);
        due("part(-1)", x.part(-1), WantedLater.BAD);
    }

    private static void fractionInLowestTerms() {
        D.sentence("THE FRACTION: lowest terms, below above 0");
        WantedLater x = Towns.list(Towns.of(3, 0, 30, 0, 0), 3);
        int[][] tenths = {{0, 1}, {1, 10}, {1, 5}, {3, 10}, {2, 5}, {1, 2}, {3, 5}, {7, 10}, {4, 5}, {9, 10}, {1, 1}};
        for (int c = 0; c <= 10; c++) {
            due("odds(0, 1, " + c + ")", x.odds(0, 1, c), 1);
            fraction("odds(0, 1, " + c + ")", x, tenths[c][0], tenths[c][1]);
        }
        x.odds(1, 8, 5);
        fraction("never", x, 0, 1);
        x.odds(0, 2, 2);
        fraction("36 of 100", x, 9, 25);
    }

    private static void oddsOfNoDays() {
        D.sentence("ODDS: each of the next n (0 .. 8) DAYS: 0");
        WantedLater x = Towns.wanted(Towns.of(3, 0, 30), 1);
        x.odds(0, 1, 5);
        due("odds(0, 0, 10)", x.odds(0, 0, 10), 1);
        fraction("in no DAYS", x, 0, 1);
        due("n -1", x.odds(0, -1, 5), WantedLater.BAD);
        due("n 9", x.odds(0, 9, 5), WantedLater.BAD);
    }

    private static void oddsOfNoneAndOfTen() {
        D.sentence("ODDS: FOLLOWED by c of 10 (0 .. 10)");
        WantedLater x = Towns.wanted(Towns.of(3, 0, 30, 0, 4, 0, 3), 7);
        x.odds(0, 8, 0);
        fraction("by none of 10", x, 0, 1);
        x.odds(0, 1, 10);
        fraction("by 10 of 10", x, 1, 1);
        x.odds(1, 8, 10);
        fraction("4 comes to 18 on the 8th DAY", x, 1, 1);
        x.odds(1, 7, 10);
        fraction("not on the 7th", x, 0, 1);
        x.odds(2, 8, 10);
        fraction("nor does 3 on the 8th", x, 0, 1);
        due("c -1", x.odds(0, 1, -1), WantedLater.BAD);
        due("c 11", x.odds(0, 1, 11), WantedLater.BAD);
    }

    private static void oddsOfEightDays() {
        D.sentence("ODDS: each of the next n (0 .. 8) DAYS, apart: 8");
        WantedLater x = Towns.list(Towns.of(3, 0, 30, 0, 4), 3);
        x.odds(0, 8, 1);
        fraction("1 less 9 by 10, eight times", x, 56953279, 100000000);
        x.odds(0, 8, 9);
        fraction("1 less 1 by 10, eight times", x, 99999999, 100000000);
        x.odds(1, 8, 3);
        fraction("3 by 10, eight times", x, 6561, 100000000);
    }

    private static void oddsApart() {
        D.sentence("ODDS: on each DAY, apart: the chance that he is STRUCK in them");
        WantedLater x = Towns.list(Towns.of(3, 0, 17, 2, 30), 3);
        x.odds(0, 1, 3);
        fraction("17 is not IT", x, 0, 1);
        x.odds(0, 2, 3);
        fraction("FOLLOWED on both", x, 9, 100);
        x.odds(0, 3, 3);
        // FOLLOWED twice: 90 of 1000; then not (18), then FOLLOWED: 63; not at first (16), then twice (18): 63.
        fraction("on two of three", x, 27, 125);
        x.odds(1, 8, 5);
        fraction("a DENTIST", x, 0, 1);
    }

    private static void oddsAsToldThen() {
        D.sentence("ODDS: FOLLOWED by c of 10, not as now; nothing but THE FRACTION is changed");
        WantedLater x = Towns.list(Towns.of(3, 0, 18), 1);
        x.odds(0, 2, 4);
        fraction("FOLLOWED by none", x, 2, 5);
        x.follow(0, 1);
        x.odds(0, 1, 0);
        fraction("0 of 10, FOLLOWED now", x, 0, 1);
        x.odds(0, 1, 4);
        fraction("4 of 10, FOLLOWED now", x, 2, 5);
        due("FOLLOWED stays", x.of(0, 3), 1);
        due("on THE LIST stays", x.of(0, 2), 1);
        due("TEMPER stays", x.of(0, 1), 18);
        due("the DAY stays", x.count(1), 0);
        due("STRUCK stays", x.count(4), 0);
        due("what may be undone stays", x.count(6), 2);
    }

    private static void oddsNotOnTheList() {
        D.sentence("odds: NO: not on THE LIST");
        WantedLater x = Towns.follow(Towns.list(Towns.of(3, 0, 30, 0, 30), 1), 3);
        x.odds(0, 1, 5);
        long digest = x.digest();
        due("one who is not", x.odds(1, 1, 7), WantedLater.NO);
        due("STATUS NO", x.status(1), 1);
        due("nothing is changed", x.digest(), digest);
        fraction("THE FRACTION stays", x, 1, 2);
        due("BAD ahead of NO: n", x.odds(1, 9, 7), WantedLater.BAD);
        due("BAD ahead of NO: c", x.odds(1, 1, 11), WantedLater.BAD);
        due("STATUS NO", x.status(1), 1);
        x.day(1);
        due("STRUCK, no more", x.odds(0, 1, 5), WantedLater.NO);
    }

    // ---- years

    private static void yearsOfNoDays() {
        D.sentence("YEARS: n (0 .. 60) DAYS: 0");
        WantedLater x = Towns.wanted(Towns.of(1, 0, 30), 1);
        due("years(3, 0)", x.years(3, 0), 0);
        due("n -1", x.years(3, -1), WantedLater.BAD);
        due("n 61", x.years(3, 61), WantedLater.BAD);
        due("nobody is there", new WantedLater().years(3, 60), 0);
    }

    /*
     * By SEED 0, X by 65536 leaves, by 2: 0 0 0 1 0 1 1 1 0 0 1 0 .. (12345; 1406932606; 654583775; 1449466924; ..)
     * By SEED 999999:                    0 0 1 1 0 1 1 1 0 0 1 1 .. (1751684876; 836118613; 1060586090; ..)
     */
    private static void yearsOfASeedAtItsEnds() {
        D.sentence("YEARS by a SEED (0 .. 999999)");
        WantedLater x = Towns.list(Towns.of(1, 0, 30), 1);
        due("SEED 0, 3 DAYS", x.years(0, 3), 0);
        due("SEED 0, 4 DAYS", x.years(0, 4), 1);
        due("SEED 999999, 2 DAYS", x.years(999999, 2), 0);
        due("SEED 999999, 3 DAYS", x.years(999999, 3), 1);
        due("SEED -1", x.years(-1, 3), WantedLater.BAD);
        due("SEED 1000000", x.years(1000000, 3), WantedLater.BAD);
    }

    private static void yearsInOrder() {
        D.sentence("YEARS: each DAY, for each who is there in order");
        WantedLater x = Towns.of(1, 0, 30, 0, 30, 0, 30);
        x.list(1, 1);
        due("of three the second, SEED 0, DAY 2: 0", x.years(0, 2), 0);
        due("of three the second, SEED 0, DAY 3: 1", x.years(0, 3), 1);
        Towns.list(x, 7);
        due("all three, DAY 1", x.years(0, 1), 0);
        due("all three, DAY 2: the first and third", x.years(0, 2), 2);
        due("all three, DAY 3", x.years(0, 3), 3);
    }

    private static void yearsFollowedElseNot() {
        D.sentence("YEARS: is 1: FOLLOWED that DAY, else not");
        WantedLater x = Towns.wanted(Towns.of(3, 0, 17), 1);
        // 17, 16, 15, 14, FOLLOWED 16, 15, FOLLOWED 17, FOLLOWED 19 (IT on the 8th DAY, as it is FOLLOWED, too).
        due("FOLLOWED now is no matter; 7 DAYS", x.years(0, 7), 0);
        due("8 DAYS", x.years(0, 8), 1);
        due("FOLLOWED stays", x.of(0, 3), 1);
        due("TEMPER stays", x.of(0, 1), 17);
        due("the DAY stays", x.count(1), 0);
        due("STRUCK stays", x.count(4), 0);
    }

    private static void yearsBySixtyDays() {
        D.sentence("YEARS: X times 1103515245 and 12345, by 2147483648 what is left over: how many are STRUCK in these");
        int[] tempers = {17, 5, 16, 0, 30, 11, 23};
        WantedLater x = new WantedLater();
        x.town(3);
        for (int temper : tempers) {
            x.one(0, temper);
        }
        Towns.list(x, 127 - 4);
        for (int i = 0; i <= 140; i++) {
            int seed = i * 7141 + i % 2;
            for (int n : new int[] {1, 9, 60}) {
                due("SEED " + seed + ", " + n + " DAYS", x.years(seed, n), plainOnes(seed, n, tempers, 127 - 4));
            }
        }
    }

    /** How many PLAIN ones are STRUCK by COUNTS 3, of these on THE LIST (bits). */
    private static int plainOnes(int seed, int n, int[] atFirst, int listed) {
        int[] tempers = atFirst.clone();
        BigInteger x = BigInteger.valueOf(seed);
        int left = listed;
        for (int i = 0; i < n; i++) {
            for (int p = 0; p < tempers.length; p++) {
                x = x.multiply(BigInteger.valueOf(1103515245L)).add(BigInteger.valueOf(12345L))
                    .mod(BigInteger.valueOf(2147483648L));
                boolean followed = x.divide(BigInteger.valueOf(65536L)).testBit(0);
                if (followed && tempers[p] >= 18) {
                    left &= ~(1 << p);
                }
                tempers[p] = followed ? Math.min(99, tempers[p] + 2) : Math.max(0, tempers[p] - 1);
            }
        }
        return Integer.bitCount(listed & ~left);
    }
}
