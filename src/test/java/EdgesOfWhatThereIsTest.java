/** Each sentence of the document that names an edge, on objects of its own: part, image, from, status, count, digest. */
public final class EdgesOfWhatThereIsTest {
    private static final Due D = new Due();

    public static void main(String[] args) {
        imageNoneKept();
        imagesNoughtAndOne();
        imageKeepsAll();
        imageKeepsNotTheRest();
        imageKeepsWhatMayBeUndone();
        undoneAsItWasBehindOtherDays();
        imageStaysAsKept();
        imageOfNobody();
        goesOnFromAnImage();
        statusByReason();
        statusOfWhatIsNotRefused();
        statusOfAnotherWhat();
        statusStays();
        countOfEach();
        countAtItsEnds();
        digestOfANewObject();
        digestOfEach();
        digestOfEachChange();
        fiveHundredAndTwelveCalls();
        D.end();
    }

    private static void due(String call, long got, long want) {
        D.due(call, got, want);
    }

    // ---- IMAGES

    private static void imageNoneKept() {
        D.sentence("from: NO: none was kept");
        WantedLater x = Towns.of(3, 0, 30);
        x.day(1);
        long digest = x.digest();
        due("from(0)", x.from(0), WantedLater.NO);
        due("from(1)", x.from(1), WantedLater.NO);
        due("nothing is changed", x.digest(), digest);
        due("STATUS NO", x.status(1), 2);
        due("an IMAGE refused is not kept", x.image(2), WantedLater.BAD);
        due("from(0)", x.from(0), WantedLater.NO);
        due("image(1)", x.image(1), 1);
        due("from(0), the other", x.from(0), WantedLater.NO);
        due("from(1)", x.from(1), 1);
        due("BAD ahead of NO: from(2)", x.from(2), WantedLater.BAD);
        due("STATUS NO", x.status(1), 4);
        due("STATUS BAD", x.status(0), 2);
    }

    private static void imagesNoughtAndOne() {
        D.sentence("IMAGES 0, 1");
        WantedLater x = Towns.of(3, 0, 30);
        due("image(-1)", x.image(-1), WantedLater.BAD);
        due("image(2)", x.image(2), WantedLater.BAD);
        due("from(-1)", x.from(-1), WantedLater.BAD);
        due("from(2)", x.from(2), WantedLater.BAD);
        due("image(0)", x.image(0), 1);
        x.day(1);
        due("image(1)", x.image(1), 1);
        x.day(1);
        due("from(0)", x.from(0), 1);
        due("its DAY", x.count(1), 0);
        due("from(1)", x.from(1), 1);
        due("its DAY", x.count(1), 1);
        due("from(0) again", x.from(0), 1);
        due("its DAY", x.count(1), 0);
    }

    private static WantedLater rich() {
        WantedLater x = Towns.wanted(Towns.of(2, 0, 12, 3, 5, 5, 8), 3);
        x.day(1);
        x.note(1, 2, 0, 3, 4);
        x.note(2, 99, 1, 98, 5);
        x.list(2, 1);
        return x;
    }

    private static void imageKeepsAll() {
        D.sentence("IMAGES keep all (COUNTS, PEOPLE, TEMPERS, THE LIST, FOLLOWED, STRUCK, the DAY, NOTES)");
        WantedLater x = rich();
        long digest = x.digest();
        int readings = x.readings();
        x.image(0);
        x.town(5);
        x.one(2, 2);
        x.list(0, 1);
        x.note(0, 5, 0, 5, 0);
        x.day(9);
        due("from(0)", x.from(0), 1);
        due("digest()", x.digest(), digest);
        int[] counts = {3, 1, 2, 1, 1, 2, 6, 0};
        for (int what = 0; what < counts.length; what++) {
            due("count(" + what + ")", x.count(what), counts[what]);
        }
        due("readings()", x.readings(), readings);
        due("COUNTS 2: 14 is IT", x.rests(0), 9);
        due("TEMPER", x.of(1, 1), 9);
        due("KIND", x.of(2, 0), 5);
        due("NOTES: is(2)", x.is(2), 1 + 8 + 32);
    }

    private static void imageKeepsNotTheRest() {
        D.sentence("IMAGES keep all but them, THE TEXT, THE FRACTION and STATUS");
        WantedLater x = Towns.list(Towns.of(3, 0, 30), 1);
        Towns.type(x, "town 1;");
        x.odds(0, 1, 5);
        x.town(0);
        x.image(0);
        x.day(1);
        x.image(1);
        x.type(';');
        x.odds(0, 1, 2);
        x.town(0);
        x.undo();
        x.undo();
        x.undo();
        due("from(0)", x.from(0), 1);
        due("THE TEXT", x.count(7), 8);
        due("THE TEXT: read()", x.read(), -17);
        due("THE FRACTION, above", x.part(0), 1);
        due("THE FRACTION, below", x.part(1), 5);
        due("STATUS BAD", x.status(0), 2);
        due("STATUS NO", x.status(1), 1);
        due("the other IMAGE", x.from(1), 1);
        due("the other IMAGE, its DAY", x.count(1), 1);
    }

    private static void imageKeepsWhatMayBeUndone() {
        D.sentence("what may be undone they keep");
        WantedLater x = Towns.of(3, 0, 30);
        x.day(12);
        x.undo();
        x.image(1);
        x.one(0, 5);
        due("behind one that comes none may be", x.undo(), WantedLater.NO);
        due("from(1)", x.from(1), 1);
        due("count(6)", x.count(6), 7);
        for (int day = 10; day >= 4; day--) {
            due("undo()", x.undo(), day);
            due("TEMPER", x.of(0, 1), 30 - day);
        }
        due("no more", x.undo(), WantedLater.NO);
        x.image(0);
        x.day(3);
        due("from(0), kept with none", x.from(0), 1);
        due("count(6)", x.count(6), 0);
        due("undo()", x.undo(), WantedLater.NO);
    }

    private static void undoneAsItWasBehindOtherDays() {
        D.sentence("what may be undone they keep, whatever has been told since");
        WantedLater x = Towns.wanted(Towns.of(3, 0, 18, 0, 9), 3);
        long first = x.digest();
        x.day(2);
        due("STRUCK", x.count(4), 1);
        x.image(0);
        x.town(1);
        x.one(5, 3);
        x.day(60);
        x.follow(0, 1);
        x.image(1);
        due("from(0)", x.from(0), 1);
        due("undo()", x.undo(), 1);
        due("TEMPER", x.of(0, 1), 20);
        due("undo()", x.undo(), 0);
        due("digest()", x.digest(), first);
        due("of the other", x.from(1), 1);
        due("undo() of FOLLOW", x.undo(), 60);
        due("undo()", x.undo(), 59);
        due("count(6)", x.count(6), 6);
    }

    private static void imageStaysAsKept() {
        D.sentence("image: An IMAGE is kept (as it was, till kept anew)");
        WantedLater x = rich();
        x.image(0);
        long digest = x.digest();
        for (int i = 0; i < 3; i++) {
            x.day(2);
            x.one(0, 3);
            x.list(1, 0);
            x.follow(2, 1);
            x.note(0, 1, 1, 1, 1);
            due("from(0), time " + i, x.from(0), 1);
            due("digest()", x.digest(), digest);
            x.undo();
            x.undo();
        }
        x.from(0);
        x.day(1);
        due("kept anew", x.image(0), 1);
        x.day(1);
        due("from(0)", x.from(0), 1);
        due("the DAY kept last", x.count(1), 2);
    }

    private static void imageOfNobody() {
        D.sentence("image: of nobody");
        WantedLater x = new WantedLater();
        due("image(0)", x.image(0), 1);
        long digest = x.digest();
        x.one(0, 30);
        x.day(5);
        due("from(0)", x.from(0), 1);
        due("digest()", x.digest(), digest);
        due("of(0, 0)", x.of(0, 0), WantedLater.BAD);
        due("count(0)", x.count(0), 0);
    }

    private static void goesOnFromAnImage() {
        D.sentence("from: It goes on from an IMAGE");
        WantedLater x = Towns.wanted(Towns.of(3, 0, 16), 1);
        x.day(1);
        x.image(0);
        due("STRUCK", x.day(1), 1);
        due("from(0)", x.from(0), 1);
        due("when(0)", x.when(0), 1);
        due("STRUCK again", x.day(1), 1);
        due("STRUCK counts once", x.count(4), 1);
        x.from(0);
        due("one comes: his number", x.one(0, 5), 1);
        due("none may be undone", x.count(6), 0);
    }

    // ---- STATUS

    private static void status(WantedLater x, int bad, int no, int full) {
        due("status(0)", x.status(0), bad);
        due("status(1)", x.status(1), no);
        due("status(2)", x.status(2), full);
    }

    private static void statusByReason() {
        D.sentence("STATUS: how many calls were refused as BAD, NO, FULL");
        WantedLater x = new WantedLater();
        status(x, 0, 0, 0);
        x.town(0);
        status(x, 1, 0, 0);
        x.undo();
        status(x, 1, 1, 0);
        for (int p = 0; p <= 7; p++) {
            x.one(0, 0);
        }
        status(x, 1, 1, 1);
        x.off(0, 1, 0);
        x.odds(0, 1, 0);
        x.from(0);
        status(x, 1, 4, 1);
        for (int i = 0; i <= 6; i++) {
            x.note(0, 0, 0, 0, 0);
        }
        status(x, 1, 4, 2);
        x.one(6, 31);
        status(x, 2, 4, 2);
    }

    private static void statusOfWhatIsNotRefused() {
        D.sentence("STATUS: each answer told so (NONE and a FAULT are not)");
        WantedLater x = Towns.list(Towns.of(3, 2, 18), 1);
        due("when", x.when(0), WantedLater.NONE);
        due("comesTrue", x.comesTrue(1, 1), WantedLater.NONE);
        due("roster", x.roster(1, 2), WantedLater.NONE);
        due("off", x.off(0, 8, 0), WantedLater.NONE);
        x.note(0, 0, 0, 0, 5);
        due("look", x.look(0, 0), WantedLater.NONE);
        due("read", x.read(), -10);
        status(x, 0, 0, 0);
    }

    private static void statusOfAnotherWhat() {
        D.sentence("status: -1: another what (counts as BAD)");
        WantedLater x = new WantedLater();
        due("status(3)", x.status(3), -1);
        status(x, 1, 0, 0);
        due("status(-1)", x.status(-1), -1);
        status(x, 2, 0, 0);
    }

    private static void statusStays() {
        D.sentence("STATUS stays behind town, read, from");
        WantedLater x = new WantedLater();
        x.undo();
        x.town(0);
        x.type(200);
        x.image(0);
        x.town(3);
        status(x, 2, 1, 0);
        Towns.read(x, "town 3;");
        status(x, 2, 1, 0);
        x.from(0);
        status(x, 2, 1, 0);
    }

    // ---- count

    private static void countOfEach() {
        D.sentence("count: 0 PEOPLE, 1 the DAY, 2 on THE LIST, 3 FOLLOWED, 4 STRUCK, 5 NOTES, 6 may be undone, 7 bytes");
        WantedLater x = Towns.of(3, 0, 30, 0, 30, 0, 0, 0, 0, 0, 0, 0, 0, 0, 0);
        Towns.list(x, 1 + 2 + 4 + 8);
        Towns.follow(x, 1 + 2 + 4 + 16 + 32);
        x.day(1);
        x.note(0, 0, 0, 0, 0);
        Towns.type(x, "town 3;  ");
        int[] counts = {7, 1, 2, 3, 2, 1, 8, 9};
        for (int what = 0; what < counts.length; what++) {
            due("count(" + what + ")", x.count(what), counts[what]);
        }
    }

    private static void countAtItsEnds() {
        D.sentence("count: BAD");
        WantedLater x = new WantedLater();
        due("count(-1)", x.count(-1), WantedLater.BAD);
        due("count(8)", x.count(8), WantedLater.BAD);
        status(x, 2, 0, 0);
        due("count(0)", x.count(0), 0);
        due("count(7)", x.count(7), 0);
    }

    // ---- digest

    private static long hash(long... values) {
        long h = 1213;
        for (long v : values) {
            h = 31 * h + v;
        }
        return h;
    }

    private static void digestOfANewObject() {
        D.sentence("digest: h = 1213; then h = 31 h + v for each v (a long, that wraps around)");
        due("of a new object", new WantedLater().digest(), -6073005672080040345L);
        due("of a new object, by its values", new WantedLater().digest(), hash(0, 0, 0, 0, 0, 0, 0, 0, 3, 0, 1));
    }

    private static void digestOfEach() {
        D.sentence("digest: count(0) to count(7); COUNTS; of PEOPLE ..; of NOTES ..; THE FRACTION");
        WantedLater x = Towns.wanted(Towns.of(4, 3, 18, 5, 17), 1);
        x.follow(1, 1);
        x.day(1);
        x.note(1, 98, 1, 97, 4);
        x.note(0, 1, 0, 2, 3);
        x.list(1, 1);
        x.undo();
        x.list(1, 1);
        x.odds(1, 1, 4);
        Towns.type(x, "town 4;one");
        due("of a town", x.digest(), hash(2, 1, 1, 1, 1, 2, 5, 10, 4, 3, 22, 0, 0, 5, 21, 1, 1,
            1, 98, 1, 97, 4, 0, 1, 0, 2, 3, 2, 5));
        WantedLater y = Towns.of(1, 0, 0, 1, 1, 2, 2, 3, 3, 4, 4, 5, 5, 0, 6);
        for (int i = 0; i < 6; i++) {
            y.note(i, i, i % 2, i, i);
        }
        due("of a full one", y.digest(), hash(7, 0, 0, 0, 0, 6, 0, 0, 1, 0, 0, 0, 0, 1, 1, 0, 0, 2, 2, 0, 0, 3, 3, 0, 0,
            4, 4, 0, 0, 5, 5, 0, 0, 0, 6, 0, 0, 0, 0, 0, 0, 0, 1, 1, 1, 1, 1, 2, 2, 0, 2, 2, 3, 3, 1, 3, 3, 4, 4, 0, 4, 4,
            5, 5, 1, 5, 5, 0, 1));
    }

    private static void digestOfEachChange() {
        D.sentence("digest: of what is there, not of what was");
        WantedLater x = Towns.wanted(Towns.of(3, 0, 30), 1);
        x.note(0, 9, 1, 9, 5);
        x.forget();
        x.undo();
        x.undo();
        due("NOTES forgotten, LIST and FOLLOW undone", x.digest(), hash(1, 0, 0, 0, 0, 0, 0, 0, 3, 0, 30, 0, 0, 0, 1));
        x.town(5);
        due("nobody any more", x.digest(), hash(0, 0, 0, 0, 0, 0, 0, 0, 5, 0, 1));
        x.town(6);
        x.one(9, 9);
        due("STATUS is not in it", x.digest(), hash(0, 0, 0, 0, 0, 0, 0, 0, 5, 0, 1));
        x.image(0);
        due("nor are IMAGES", x.digest(), hash(0, 0, 0, 0, 0, 0, 0, 0, 5, 0, 1));
    }

    private static void fiveHundredAndTwelveCalls() {
        D.sentence("An object is used for at most 512 calls");
        WantedLater x = new WantedLater();
        for (int call = 1; call <= 511; call++) {
            due("call " + call, x.town(0), WantedLater.BAD);
        }
        due("the 512th", x.status(0), 511);
        WantedLater y = new WantedLater();
        for (int call = 1; call <= 511; call++) {
            y.day(60);
        }
        due("the 512th: the DAY", y.count(1), 511 * 60);
    }
}
