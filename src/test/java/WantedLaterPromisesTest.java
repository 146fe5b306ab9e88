import java.math.BigInteger;

/** Each promise of the document by hand: ordinary inputs, edges, wrong inputs. */
public final class WantedLaterPromisesTest {
    private static final Due D = new Due();
    private static String promise = "";

    public static void main(String[] args) {
        newObject();
        town();
        one();
        type();
        clear();
        readWell();
        readFaults();
        list();
        follow();
        dayKinds();
        dayStruck();
        undo();
        of();
        then();
        when();
        lack();
        comesTrue();
        readings();
        roster();
        off();
        rests();
        note();
        forget();
        is();
        look();
        source();
        odds();
        years();
        part();
        image();
        from();
        status();
        count();
        digest();
        D.end();
    }

    private static void due(String call, long got, long want) {
        D.due(promise + ": " + call, got, want);
    }

    /** A town by its text. */
    private static WantedLater townOf(String text) {
        WantedLater x = new WantedLater();
        if (Towns.read(x, text) < 0) {
            due("a town of the test, " + text, -1, 0);
        }
        return x;
    }

    /** That a call was refused as this, and that nothing but STATUS is changed. */
    private static void refused(WantedLater x, String call, long answer, long digest, int statusAgo, int reason) {
        int what = reason == WantedLater.BAD ? 0 : reason == WantedLater.NO ? 1 : 2;
        due(call, answer, reason);
        due(call + ", digest", x.digest(), digest);
        due(call + ", status", x.status(what), statusAgo + 1);
    }

    private static void newObject() {
        promise = "1 new";
        WantedLater x = new WantedLater();
        for (int what = 0; what <= 7; what++) {
            due("count(" + what + ")", x.count(what), 0);
        }
        for (int what = 0; what <= 2; what++) {
            due("status(" + what + ")", x.status(what), 0);
        }
        due("part(0)", x.part(0), 0);
        due("part(1)", x.part(1), 1);
        long h = 1213;
        for (long v : new long[] {0, 0, 0, 0, 0, 0, 0, 0, 3, 0, 1}) {
            h = 31 * h + v;
        }
        due("digest()", x.digest(), h);
        due("from(0)", x.from(0), WantedLater.NO);
        due("from(1)", x.from(1), WantedLater.NO);
        due("undo()", x.undo(), WantedLater.NO);
        due("COUNTS are 3: one(0, 18)", x.one(0, 18), 0);
        due("COUNTS are 3: readings()", x.readings(), 48);
        due("NONE", WantedLater.NONE, -1);
        due("BAD", WantedLater.BAD, -2);
        due("NO", WantedLater.NO, -3);
        due("FULL", WantedLater.FULL, -4);
    }

    private static void town() {
        promise = "2 town";
        WantedLater x = townOf("town 2; one 0 18; one 1 30; list 0; follow 0;");
        x.note(0, 1, 1, 18, 3);
        x.image(1);
        x.odds(0, 1, 5);
        x.day(1);
        due("count(4)", x.count(4), 1);
        long digest = x.digest();
        refused(x, "town(0)", x.town(0), digest, 0, WantedLater.BAD);
        refused(x, "town(6)", x.town(6), digest, 1, WantedLater.BAD);
        refused(x, "town(-1)", x.town(-1), digest, 2, WantedLater.BAD);
        due("town(5)", x.town(5), 2);
        for (int what = 0; what <= 6; what++) {
            due("count(" + what + ")", x.count(what), 0);
        }
        due("THE TEXT stays", x.count(7), 45);
        due("THE FRACTION stays", x.part(1), 2);
        due("STATUS stays", x.status(0), 3);
        due("undo()", x.undo(), WantedLater.NO);
        x.one(0, 24);
        x.one(0, 30);
        due("COUNTS are told: 24 comes to 30, FOLLOWED", x.lack(), 1);
        x.list(1, 1);
        x.follow(1, 1);
        due("COUNTS are told: when(1)", x.when(1), 1);
        due("an IMAGE stays", x.from(1), 1);
        due("an IMAGE stays: count(5)", x.count(5), 1);
        due("town(1)", x.town(1), 2);
    }

    private static void one() {
        promise = "3 one";
        WantedLater x = new WantedLater();
        long digest = x.digest();
        refused(x, "one(-1, 0)", x.one(-1, 0), digest, 0, WantedLater.BAD);
        refused(x, "one(6, 0)", x.one(6, 0), digest, 1, WantedLater.BAD);
        refused(x, "one(0, -1)", x.one(0, -1), digest, 2, WantedLater.BAD);
        refused(x, "one(0, 31)", x.one(0, 31), digest, 3, WantedLater.BAD);
        for (int p = 0; p < 7; p++) {
            due("one", x.one(p % 6, 30 - p), p);
            due("count(0)", x.count(0), p + 1);
            due("KIND", x.of(p, 0), p % 6);
            due("TEMPER", x.of(p, 1), 30 - p);
            due("on THE LIST", x.of(p, 2), 0);
            due("FOLLOWED", x.of(p, 3), 0);
        }
        x.list(3, 1);
        x.day(1);
        digest = x.digest();
        refused(x, "the 8th", x.one(0, 0), digest, 0, WantedLater.FULL);
        refused(x, "BAD ahead of FULL", x.one(6, 0), digest, 4, WantedLater.BAD);
        due("refused, what may be undone stays", x.count(6), 2);
        WantedLater y = townOf("town 3; one 0 5;");
        y.day(3);
        due("one behind DAYS", y.one(2, 2), 1);
        due("none may be undone behind it", y.count(6), 0);
        due("undo()", y.undo(), WantedLater.NO);
        due("the DAY stays", y.count(1), 3);
    }

    private static void type() {
        promise = "4 type";
        WantedLater x = new WantedLater();
        due("type(-1)", x.type(-1), WantedLater.BAD);
        due("type(128)", x.type(128), WantedLater.BAD);
        due("type(0)", x.type(0), 1);
        due("type(127)", x.type(127), 2);
        for (int i = 3; i <= 150; i++) {
            due("type(65)", x.type(65), i);
        }
        long digest = x.digest();
        refused(x, "the 151st", x.type(65), digest, 0, WantedLater.FULL);
        refused(x, "BAD ahead of FULL", x.type(128), digest, 2, WantedLater.BAD);
        due("count(7)", x.count(7), 150);
    }

    private static void clear() {
        promise = "5 clear";
        WantedLater x = townOf("town 3; one 0 5;");
        x.day(2);
        due("clear()", x.clear(), 16);
        due("clear()", x.clear(), 0);
        due("count(7)", x.count(7), 0);
        due("count(0)", x.count(0), 1);
        due("count(1)", x.count(1), 2);
        due("read() of nothing", x.read(), -10);
        Towns.type(x, "town 1;");
        due("typed anew", x.read(), 1);
    }

    private static void readWell() {
        promise = "6 read";
        WantedLater x = new WantedLater();
        due("the town alone", Towns.read(x, "town 3;"), 1);
        due("blanks", Towns.read(x, "  town   2  ;  one 3   07 ;list 0;follow  0;  "), 4);
        due("readings()", x.readings(), 2 + 4);
        due("KIND", x.of(0, 0), 3);
        due("TEMPER", x.of(0, 1), 7);
        due("on THE LIST", x.of(0, 2), 1);
        due("FOLLOWED", x.of(0, 3), 1);
        due("when(0) by COUNTS 2", x.when(0), 1);
        due("no blanks", Towns.read(x, "town4;one0 30;list0;"), 3);
        due("FOLLOWED", x.of(0, 3), 0);
        due("two figures", Towns.read(x, "town 05;one 00 00;list 00;list 0;"), 4);
        due("seven", Towns.read(x, "town 3;one 0 1;one 1 2;one 2 3;one 3 4;one 4 5;one 5 6;one 0 7;list 6;"), 9);
        due("list 6", x.of(6, 2), 1);
        due("count(2)", x.count(2), 1);
        due("a one behind a list", Towns.read(x, "town 3;one 0 1;follow 0;one 1 2;follow 1;"), 5);
        due("count(3)", x.count(3), 2);
        x.list(0, 1);
        x.note(0, 0, 0, 0, 0);
        x.day(3);
        x.image(0);
        x.odds(0, 0, 0);
        due("read() anew", x.read(), 5);
        due("DAY", x.count(1), 0);
        due("THE LIST", x.count(2), 0);
        due("STRUCK", x.count(4), 0);
        due("NOTES", x.count(5), 0);
        due("nothing to undo", x.count(6), 0);
        due("THE TEXT stays", x.count(7), 41);
        due("IMAGES stay", x.from(0), 1);
        due("IMAGES stay: count(1)", x.count(1), 3);
    }

    private static void readFaults() {
        promise = "6 read, FAULT";
        String[] texts = {
            "", "   ", "town", "town ", "town 3", "town 3;one", "town 3;one 0", "town 3;one 0 5", "town 3;one 0 5;list",
            "^one 0 5;", "^;", "^5;", "^towns 3;", "^townz 3;", "^atown 3;", "^towna 3;", "^tow 3;", " ^Town 3;", "town ^0;", "town ^6;", "town ^;", "town ^x;",
            "town ^001;", "town ^-1;", "town 3^one 0 5;", "town 3 ^3;", "town 3;^;", "town 3;^town 3;", "town 3;^7;",
            "town 3;^on", "town 3;^oneone 0 5;", "town 3;one ^6 0;", "town 3;one 0 ^31;", "town 3;one 0^;",
            "town 3;one 0 ^123;", "town 3;one ^012 5;", "town 3;one 0 5 ^0;", "town 3;one ^06;",
            "town 3;list ^0;", "town 3;follow ^0;", "town 3;one 0 5;list ^1;", "town 3;one 0 5;follow ^1;",
            "town 3;one 0 5;list 0 ^0;", "town 3;one 0 5;list ^follow 0;", "town 3;one 0 5;^lists 0;", "town 3;one 0 5;^mist 0;", "^down 3;",
            "town 3;one 0 5;^\t", "town 3^,", "town 3;one 0 5;list 0;follow 0;^!",
            "town 3;one 0 0;one 0 0;one 0 0;one 0 0;one 0 0;one 0 0;one 0 0;^one 9 99;",
            "town 3;one 0 0;one 0 0;one 0 0;one 0 0;one 0 0;one 0 0;one 0 0;^one",
        };
        for (String marked : texts) {
            String text = marked.replace("^", "");
            int fault = marked.indexOf('^') < 0 ? text.length() : marked.indexOf('^');
            WantedLater x = townOf("town 2; one 5 9; list 0; follow 0;");
            x.day(2);
            x.note(0, 0, 0, 0, 0);
            x.clear();
            long digest = x.digest();
            due("read of '" + text + "'", Towns.read(x, text), -10 - fault);
            x.clear();
            due("all stays behind '" + text + "'", x.digest(), digest);
            due("what may be undone stays", x.undo(), 1);
            due("no STATUS", x.status(0) + x.status(1) + x.status(2), 0);
        }
    }

    private static void list() {
        promise = "7 list";
        WantedLater x = townOf("town 3; one 0 5; one 0 6;");
        due("list(1, 1)", x.list(1, 1), 0);
        due("list(1, 1)", x.list(1, 1), 1);
        due("of(0, 2)", x.of(0, 2), 0);
        due("of(1, 2)", x.of(1, 2), 1);
        due("of(1, 3)", x.of(1, 3), 0);
        due("list(1, 0)", x.list(1, 0), 1);
        due("list(1, 0)", x.list(1, 0), 0);
        due("count(2)", x.count(2), 0);
        due("each may be undone", x.count(6), 4);
        long digest = x.digest();
        refused(x, "list(2, 1)", x.list(2, 1), digest, 0, WantedLater.BAD);
        refused(x, "list(-1, 1)", x.list(-1, 1), digest, 1, WantedLater.BAD);
        refused(x, "list(0, 2)", x.list(0, 2), digest, 2, WantedLater.BAD);
        refused(x, "list(0, -1)", x.list(0, -1), digest, 3, WantedLater.BAD);
    }

    private static void follow() {
        promise = "8 follow";
        WantedLater x = townOf("town 3; one 0 5; one 0 6;");
        due("follow(0, 1)", x.follow(0, 1), 0);
        due("follow(0, 1)", x.follow(0, 1), 1);
        due("of(0, 3)", x.of(0, 3), 1);
        due("of(0, 2)", x.of(0, 2), 0);
        due("of(1, 3)", x.of(1, 3), 0);
        due("follow(0, 0)", x.follow(0, 0), 1);
        due("count(3)", x.count(3), 0);
        due("each may be undone", x.count(6), 3);
        long digest = x.digest();
        refused(x, "follow(2, 1)", x.follow(2, 1), digest, 0, WantedLater.BAD);
        refused(x, "follow(-1, 1)", x.follow(-1, 1), digest, 1, WantedLater.BAD);
        refused(x, "follow(0, 2)", x.follow(0, 2), digest, 2, WantedLater.BAD);
        refused(x, "follow(0, -1)", x.follow(0, -1), digest, 3, WantedLater.BAD);
    }

    /** ACTS and TEMPERS of each KIND, of TEMPER 20 (PLAIN: 3) on DAY 0, then as days go by. */
    private static void dayKinds() {
        promise = "9 day, KINDS";
        String all = "town 5;one 0 20;one 1 20;one 2 20;one 3 20;one 4 20;one 5 20;";
        int[][] acts = {{3, 1, 3, 3, 1, 0}, {3, 1, 0, 4, 1, 0}, {3, 1, 3, 3, 1, 3}, {3, 1, 0, 5, 1, 5}};
        int[][] behind = {{19, 19, 19, 19, 19, 19}, {22, 20, 21, 24, 21, 24}};
        for (int followed = 0; followed <= 1; followed++) {
            WantedLater x = townOf(all);
            for (int p = 0; p < 6; p++) {
                x.follow(p, followed);
            }
            for (int p = 0; p < 6; p++) {
                due("ACT of KIND " + p, x.of(p, 4), acts[followed][p]);
            }
            due("day(1)", x.day(1), 0);
            for (int p = 0; p < 6; p++) {
                due("TEMPER of KIND " + p, x.of(p, 1), behind[followed][p]);
                due("ACT behind it of KIND " + p, x.of(p, 4), acts[2 + followed][p]);
                due("still FOLLOWED", x.of(p, 3), followed);
            }
        }
        WantedLater x = townOf("town 5; one 4 0; one 0 0; one 0 30; one 3 30; follow 2; follow 3;");
        due("a KISSER of TEMPER 0", x.of(0, 4), 1);
        x.day(1);
        due("a KISSER on DAY 1", x.of(0, 4), 0);
        due("0 at least", x.of(1, 1), 0);
        x.day(60);
        due("99 at most", x.of(2, 1), 99);
        due("99 at most", x.of(3, 1), 99);
        due("5 at most", x.of(2, 4), 5);
        due("5 at most", x.of(3, 4), 5);
        due("the DAY", x.count(1), 61);
    }

    private static void dayStruck() {
        promise = "9 day";
        WantedLater x = townOf("town 3; one 0 18; one 0 17; one 0 18; one 0 18; one 2 30;"
                + "list 0; follow 0; list 1; follow 1; list 2; follow 3; list 4; follow 4;");
        long digest = x.digest();
        refused(x, "day(0)", x.day(0), digest, 0, WantedLater.BAD);
        refused(x, "day(61)", x.day(61), digest, 1, WantedLater.BAD);
        due("day(1)", x.day(1), 1);
        due("on THE LIST no more", x.of(0, 2), 0);
        due("FOLLOWED no more", x.of(0, 3), 0);
        due("he was FOLLOWED that DAY", x.of(0, 1), 20);
        due("still on THE LIST", x.of(1, 2), 1);
        due("not FOLLOWED", x.of(2, 2), 1);
        due("not on THE LIST", x.of(3, 3), 1);
        due("a DENTIST", x.of(4, 2), 1);
        due("STRUCK", x.count(4), 1);
        due("day(1)", x.day(1), 2);
        due("STRUCK", x.count(4), 2);
        x.list(0, 1);
        x.follow(0, 1);
        x.follow(2, 1);
        due("STRUCK once more, by 19 and 16", x.day(1), 1);
        due("STRUCK", x.count(4), 3);
        due("then by TEMPER 18", x.day(60), 4);
        due("STRUCK", x.count(4), 4);
        due("may be undone", x.count(6), 8);
        due("the DAY", x.count(1), 63);
        due("undo()", x.undo(), 62);
    }

    private static void undo() {
        promise = "10 undo";
        WantedLater x = townOf("town 3; one 0 17; one 3 18; list 0; follow 0; list 1; follow 1;");
        long first = x.digest();
        due("undo()", x.undo(), WantedLater.NO);
        due("STATUS", x.status(1), 1);
        due("digest", x.digest(), first);
        due("day(2)", x.day(2), 3);
        due("undo() of one DAY", x.undo(), 1);
        due("THE LIST", x.count(2), 1);
        due("FOLLOWED", x.count(3), 1);
        due("STRUCK", x.count(4), 1);
        due("TEMPER", x.of(0, 1), 19);
        x.day(3);
        due("undo()", x.undo(), 3);
        due("STRUCK, as ahead of it", x.count(4), 2);
        due("undo()", x.undo(), 2);
        due("undo()", x.undo(), 1);
        due("undo() of the other", x.undo(), 0);
        due("as at first", x.digest(), first);
        x.list(0, 0);
        x.follow(0, 0);
        x.note(0, 1, 1, 1, 1);
        due("undo() of follow", x.undo(), 0);
        due("FOLLOWED", x.of(0, 3), 1);
        due("THE LIST", x.of(0, 2), 0);
        due("undo() of list", x.undo(), 0);
        due("THE LIST", x.of(0, 2), 1);
        due("NOTES stay", x.count(5), 1);
        x.day(20);
        for (int i = 19; i >= 12; i--) {
            due("may be undone", x.count(6), i - 11);
            due("undo()", x.undo(), i);
        }
        due("8 at most", x.undo(), WantedLater.NO);
        x.follow(0, 0);
        x.town(3);
        due("nothing behind town", x.undo(), WantedLater.NO);
    }

    private static void of() {
        promise = "11 of";
        WantedLater x = townOf("town 3; one 0 13; one 3 29; one 5 30; list 1; follow 1; follow 2;");
        int[][] rows = {{0, 13, 0, 0, 2}, {3, 29, 1, 1, 5}, {5, 30, 0, 1, 0}};
        for (int p = 0; p < 3; p++) {
            for (int what = 0; what < 5; what++) {
                due("of(" + p + ", " + what + ")", x.of(p, what), rows[p][what]);
            }
        }
        long digest = x.digest();
        refused(x, "of(3, 0)", x.of(3, 0), digest, 0, WantedLater.BAD);
        refused(x, "of(-1, 0)", x.of(-1, 0), digest, 1, WantedLater.BAD);
        refused(x, "of(0, 5)", x.of(0, 5), digest, 2, WantedLater.BAD);
        refused(x, "of(0, -1)", x.of(0, -1), digest, 3, WantedLater.BAD);
    }

    private static void then() {
        promise = "12 then";
        WantedLater x = townOf("town 3; one 0 16; one 0 6; list 0; follow 0;");
        long digest = x.digest();
        int[] tempers = {16, 18, 20, 19, 18, 17, 16};
        for (int m = 0; m < tempers.length; m++) {
            due("then(0, " + m + ", 0)", x.then(0, m, 0), tempers[m] / 6);
            due("then(0, " + m + ", 1)", x.then(0, m, 1), tempers[m]);
        }
        due("then(1, 60, 1)", x.then(1, 60, 1), 0);
        due("then(1, 6, 1)", x.then(1, 6, 1), 0);
        due("nothing is changed", x.digest(), digest);
        refused(x, "then(2, 0, 0)", x.then(2, 0, 0), digest, 0, WantedLater.BAD);
        refused(x, "then(0, 61, 0)", x.then(0, 61, 0), digest, 1, WantedLater.BAD);
        refused(x, "then(0, -1, 0)", x.then(0, -1, 0), digest, 2, WantedLater.BAD);
        refused(x, "then(0, 0, 2)", x.then(0, 0, 2), digest, 3, WantedLater.BAD);
        refused(x, "then(0, 0, -1)", x.then(0, 0, -1), digest, 4, WantedLater.BAD);
        WantedLater y = townOf("town 5; one 5 12; follow 0;");
        y.day(1);
        due("by the DAY there is: ACT", y.then(0, 0, 0), 3);
        due("by the DAY there is: ACT the next", y.then(0, 1, 0), 0);
        due("by the DAY there is: ACT behind it", y.then(0, 2, 0), 5);
    }

    private static void when() {
        promise = "13 when";
        WantedLater x = townOf("town 5; one 0 30; one 0 0; one 0 30; one 0 30; one 2 30; one 1 30;"
                + "list 0;list 1;list 2;list 4;list 5;follow 0;follow 1;follow 3;follow 4;");
        x.follow(5, 1);
        int[] days = {1, 16, WantedLater.NONE, WantedLater.NONE, WantedLater.NONE, WantedLater.NONE};
        for (int p = 0; p < 6; p++) {
            due("when(" + p + ")", x.when(p), days[p]);
        }
        long digest = x.digest();
        refused(x, "when(6)", x.when(6), digest, 0, WantedLater.BAD);
        refused(x, "when(-1)", x.when(-1), digest, 1, WantedLater.BAD);
        due("nothing is changed", x.digest(), digest);
    }

    private static void lack() {
        promise = "14 lack";
        due("nobody", new WantedLater().lack(), 0);
        WantedLater x = townOf("town 5; one 0 29; one 0 30; one 2 30; one 3 23; one 1 30; one 4 29; one 5 0;");
        due("those whom it makes", x.lack(), 1 + 8 + 64);
        due("nothing is changed", x.of(0, 1), 29);
        WantedLater y = townOf("town 3; one 4 14; one 4 0; one 0 18; list 0;");
        due("a KISSER of 14 comes to 30 in 16 DAYS", y.lack(), 1);
        WantedLater z = townOf("town 3; one 4 1; one 4 0; list 0; follow 1;");
        due("29 DAYS behind this one: 30; and 29", z.lack(), 1);
    }

    private static void comesTrue() {
        promise = "15 comesTrue";
        WantedLater x = townOf("town 3; one 0 18; one 0 17; one 0 16; one 2 18;");
        due("a DENTIST who does IT is STRUCK by none", x.comesTrue(1, 0), 0);
        due("no least", x.comesTrue(1, 1), WantedLater.NONE);
        WantedLater y = townOf("town 3; one 0 18; one 0 17; one 0 14; one 1 5; list 3; follow 3;");
        due("sets in 1 DAY", y.comesTrue(1, 0), 1);
        due("the least", y.comesTrue(1, 1), 1);
        due("sets in 2 DAYS", y.comesTrue(2, 0), 2);
        due("the least", y.comesTrue(2, 1), 1);
        due("sets in 3 DAYS", y.comesTrue(3, 0), 4);
        due("sets in 30 DAYS", y.comesTrue(30, 0), 4);
        due("nobody: the empty set", new WantedLater().comesTrue(30, 0), 1);
        due("nobody: the empty set", new WantedLater().comesTrue(30, 1), 0);
        long digest = y.digest();
        refused(y, "comesTrue(0, 0)", y.comesTrue(0, 0), digest, 0, WantedLater.BAD);
        refused(y, "comesTrue(31, 0)", y.comesTrue(31, 0), digest, 1, WantedLater.BAD);
        refused(y, "comesTrue(1, 2)", y.comesTrue(1, 2), digest, 2, WantedLater.BAD);
        refused(y, "comesTrue(1, -1)", y.comesTrue(1, -1), digest, 3, WantedLater.BAD);
    }

    private static void readings() {
        promise = "16 readings";
        due("nobody", new WantedLater().readings(), 62);
        WantedLater x = townOf("town 3; one 0 12; one 0 24; one 3 18; list 1; list 2; follow 2;");
        due("by 3 and 4 (he turns)", x.readings(), 8 + 16);
        x.follow(2, 0);
        due("by 3", x.readings(), 8);
        x.list(2, 0);
        due("by 4", x.readings(), 16);
        x.list(1, 0);
        due("by 5", x.readings(), 32);
        x.list(0, 1);
        due("none", x.readings(), 0);
    }

    private static void roster() {
        promise = "17 roster";
        WantedLater x = townOf("town 3; one 0 0; one 0 0; one 0 0; one 0 0; list 0; list 1; list 3;");
        due("roster(9, 4)", x.roster(9, 4), 2);
        due("roster(9, 3)", x.roster(9, 3), 1);
        due("roster(9, 9)", x.roster(9, 9), 3);
        due("roster(5, 0)", x.roster(5, 0), 0);
        due("roster(1, 1)", x.roster(1, 1), 3);
        due("roster(2, 1)", x.roster(2, 1), 2);
        due("roster(8, 9)", x.roster(8, 9), WantedLater.NONE);
        due("nobody on THE LIST", new WantedLater().roster(1, 1), 0);
        due("nobody on THE LIST", new WantedLater().roster(1, 2), WantedLater.NONE);
        long digest = x.digest();
        refused(x, "roster(0, 0)", x.roster(0, 0), digest, 0, WantedLater.BAD);
        refused(x, "roster(10, 0)", x.roster(10, 0), digest, 1, WantedLater.BAD);
        refused(x, "roster(1, 10)", x.roster(1, 10), digest, 2, WantedLater.BAD);
        refused(x, "roster(1, -1)", x.roster(1, -1), digest, 3, WantedLater.BAD);
    }

    private static void off() {
        promise = "18 off";
        WantedLater x = townOf("town 4; one 0 24; one 0 20; one 2 30; one 5 17; one 0 24; list 0; list 1; list 2; list 3;"
                + "follow 2; follow 3;");
        due("this DAY", x.off(0, 1, 0), 1);
        due("this DAY", x.off(0, 8, 1), 1);
        due("20, 22, then 24", x.off(1, 8, 0), 3);
        due("the first three DAYS", x.off(1, 8, 1), 7);
        due("in 2 there is none", x.off(1, 2, 0), WantedLater.NONE);
        due("in 2 there is none", x.off(1, 2, 1), WantedLater.NONE);
        due("a DENTIST", x.off(2, 8, 0), WantedLater.NONE);
        due("a NEW one, on DAY 0 and 1", x.off(3, 8, 0), 2);
        due("a NEW one, on DAY 0 and 1", x.off(3, 8, 1), 3);
        long digest = x.digest();
        refused(x, "off(4, 1, 0)", x.off(4, 1, 0), digest, 0, WantedLater.NO);
        refused(x, "off(5, 1, 0)", x.off(5, 1, 0), digest, 0, WantedLater.BAD);
        refused(x, "off(4, 0, 0)", x.off(4, 0, 0), digest, 1, WantedLater.BAD);
        refused(x, "off(0, 9, 0)", x.off(0, 9, 0), digest, 2, WantedLater.BAD);
        refused(x, "off(0, 1, 2)", x.off(0, 1, 2), digest, 3, WantedLater.BAD);
        refused(x, "off(0, 1, -1)", x.off(0, 1, -1), digest, 4, WantedLater.BAD);
        WantedLater y = townOf("town 1; one 4 0; list 0;");
        y.day(1);
        due("a KISSER, on DAY 3", y.off(0, 3, 1), 4);
        due("in 2 there is none", y.off(0, 2, 1), WantedLater.NONE);
        WantedLater z = townOf("town 1; one 4 18; list 0;");
        z.day(1);
        due("DAYS 1 and 2 would do", z.off(0, 2, 1), 3);
        due("but DAY 3 alone is fewer", z.off(0, 3, 1), 4);
        due("but DAY 3 alone is fewer", z.off(0, 3, 0), 1);
    }

    private static void rests() {
        promise = "19 rests";
        WantedLater x = townOf("town 3; one 0 18; one 0 17; one 2 18; one 3 12; one 5 30;");
        int[] bits = {9, 12, 9, 12, 12};
        for (int p = 0; p < 5; p++) {
            due("rests(" + p + ")", x.rests(p), bits[p]);
            x.follow(p, 1);
            due("FOLLOWED, rests(" + p + ")", x.rests(p), bits[p]);
        }
        x.day(1);
        due("a NEW one on DAY 1", x.rests(4), 9);
        long digest = x.digest();
        refused(x, "rests(5)", x.rests(5), digest, 0, WantedLater.BAD);
        refused(x, "rests(-1)", x.rests(-1), digest, 1, WantedLater.BAD);
    }

    private static void note() {
        promise = "20 note";
        WantedLater x = townOf("town 3; one 0 18;");
        long digest = x.digest();
        int[][] wrong = {{1, 0, 0, 0, 0}, {-1, 0, 0, 0, 0}, {0, 100, 0, 0, 0}, {0, -1, 0, 0, 0}, {0, 0, 2, 0, 0},
            {0, 0, -1, 0, 0}, {0, 0, 0, 100, 0}, {0, 0, 0, -1, 0}, {0, 0, 0, 0, 6}, {0, 0, 0, 0, -1}};
        for (int i = 0; i < wrong.length; i++) {
            int[] w = wrong[i];
            refused(x, "wrong note " + i, x.note(w[0], w[1], w[2], w[3], w[4]), digest, i, WantedLater.BAD);
        }
        for (int i = 1; i <= 6; i++) {
            due("note", x.note(0, 99, 1, 99, 5), i);
            due("count(5)", x.count(5), i);
        }
        digest = x.digest();
        refused(x, "the 7th", x.note(0, 0, 0, 0, 0), digest, 0, WantedLater.FULL);
        refused(x, "BAD ahead of FULL", x.note(0, 0, 0, 0, 6), digest, wrong.length, WantedLater.BAD);
    }

    private static void forget() {
        promise = "21 forget";
        WantedLater x = townOf("town 3; one 0 18;");
        x.note(0, 0, 0, 18, 5);
        x.note(0, 0, 0, 18, 4);
        due("is(0)", x.is(0), 0);
        due("forget()", x.forget(), 2);
        due("forget()", x.forget(), 0);
        due("count(5)", x.count(5), 0);
        due("is(0)", x.is(0), 63);
        due("note", x.note(0, 0, 0, 18, 3), 1);
    }

    private static void is() {
        promise = "22 is";
        WantedLater x = townOf("town 3; one 0 18; one 5 18;");
        due("no NOTES", x.is(0), 63);
        x.note(0, 3, 1, 20, 1);
        due("SAINT, KISSER", x.is(0), 2 + 16);
        due("of another there are none", x.is(1), 63);
        x.note(0, 3, 0, 5, 1);
        due("KISSER", x.is(0), 16);
        x.note(0, 1, 0, 12, 0);
        due("KISSER, also on DAY 1", x.is(0), 16);
        x.note(1, 4, 0, 20, 3);
        due("PLAIN, DENTIST, TURNS", x.is(1), 1 + 4 + 8);
        x.note(1, 5, 1, 20, 4);
        due("TURNS", x.is(1), 8);
        x.note(1, 5, 1, 20, 0);
        due("none", x.is(1), 0);
        due("the other stays", x.is(0), 16);
        long digest = x.digest();
        refused(x, "is(2)", x.is(2), digest, 0, WantedLater.BAD);
        refused(x, "is(-1)", x.is(-1), digest, 1, WantedLater.BAD);
    }

    private static void look() {
        promise = "23 look";
        WantedLater x = townOf("town 3; one 0 18; one 5 18;");
        due("all KINDS, TEMPER 14: FOLLOWED on DAY 3", x.look(0, 14), 9);
        due("all KINDS, TEMPER 0: on DAY 0 five do nothing, FOLLOWED on DAY 1 four", x.look(0, 0), 9);
        due("all KINDS, TEMPER 99: 5, 3, 0 are three of one at least", x.look(0, 99), 6);
        x.note(0, 0, 0, 17, 2);
        due("PLAIN, DENTIST, TURNS: each alone, FOLLOWED", x.look(0, 17), 6);
        due("PLAIN and TURNS are alike at 99", x.look(0, 99), 0 + 6);
        x.note(0, 0, 1, 17, 3);
        due("one KIND: all alike", x.look(0, 17), 0);
        due("another one", x.look(1, 14), 9);
        x.note(0, 0, 0, 17, 3);
        due("no KIND", x.look(0, 17), WantedLater.NONE);
        long digest = x.digest();
        refused(x, "look(2, 0)", x.look(2, 0), digest, 0, WantedLater.BAD);
        refused(x, "look(-1, 0)", x.look(-1, 0), digest, 1, WantedLater.BAD);
        refused(x, "look(0, 100)", x.look(0, 100), digest, 2, WantedLater.BAD);
        refused(x, "look(0, -1)", x.look(0, -1), digest, 3, WantedLater.BAD);
    }

    private static void source() {
        promise = "24 source";
        due("nobody", new WantedLater().source(0), 101);
        due("nobody", new WantedLater().source(1), 1);
        WantedLater x = townOf("town 3; one 0 10; one 1 20; one 0 12; list 1;");
        due("v of 13 to 20", x.source(0), 8);
        due("of each KIND", x.source(1), 1);
        x.list(2, 1);
        due("v of 11, 12", x.source(0), 2);
        due("one PLAIN is, one is not", x.source(1), 0);
        x.list(0, 1);
        due("v of 0 to 10", x.source(0), 11);
        due("all are", x.source(1), 1);
        x.list(1, 0);
        due("none", x.source(0), 0);
        due("all PLAIN ones", x.source(1), 1);
        WantedLater y = townOf("town 3; one 3 30; follow 0;");
        y.day(20);
        due("TEMPER 99: v of 100", y.source(0), 1);
        long digest = y.digest();
        refused(y, "source(2)", y.source(2), digest, 0, WantedLater.BAD);
        refused(y, "source(-1)", y.source(-1), digest, 1, WantedLater.BAD);
    }

    private static void odds(WantedLater x, int p, int n, int c, long above, long below) {
        due("odds(" + p + ", " + n + ", " + c + ")", x.odds(p, n, c), 1);
        // In lowest terms: alike by cross products, and no divisor of both above 1.
        due("above by below", x.part(0) * below, x.part(1) * above);
        due("lowest terms", BigInteger.valueOf(x.part(0)).gcd(BigInteger.valueOf(x.part(1))).longValue(), 1);
        due("below above 0", x.part(1) > 0 ? 1 : 0, 1);
    }

    private static void odds() {
        promise = "25 odds";
        WantedLater x = townOf("town 3; one 0 30; one 0 16; one 2 30; one 0 30; one 0 17; list 0; list 1; list 2; list 4;"
                + "follow 4;");
        odds(x, 0, 1, 5, 1, 2);
        odds(x, 0, 2, 5, 3, 4);
        odds(x, 0, 0, 5, 0, 1);
        odds(x, 0, 8, 0, 0, 1);
        odds(x, 0, 8, 10, 1, 1);
        odds(x, 0, 8, 1, 56953279, 100000000);
        odds(x, 1, 2, 3, 9, 100);
        odds(x, 1, 3, 3, 9, 100);
        odds(x, 2, 8, 7, 0, 1);
        odds(x, 4, 1, 10, 0, 1);
        odds(x, 4, 2, 5, 1, 4);
        odds(x, 4, 3, 3, 90 + 63 + 63, 1000);
        long digest = x.digest();
        refused(x, "odds(3, 1, 5)", x.odds(3, 1, 5), digest, 0, WantedLater.NO);
        refused(x, "odds(5, 1, 5)", x.odds(5, 1, 5), digest, 0, WantedLater.BAD);
        refused(x, "odds(3, 9, 5)", x.odds(3, 9, 5), digest, 1, WantedLater.BAD);
        refused(x, "odds(0, -1, 5)", x.odds(0, -1, 5), digest, 2, WantedLater.BAD);
        refused(x, "odds(0, 1, 11)", x.odds(0, 1, 11), digest, 3, WantedLater.BAD);
        refused(x, "odds(0, 1, -1)", x.odds(0, 1, -1), digest, 4, WantedLater.BAD);
        due("nothing else is changed", x.of(0, 1), 30);
    }

    private static void years() {
        promise = "26 years";
        WantedLater x = townOf("town 1; one 0 30; one 0 30; list 0; list 1;");
        long digest = x.digest();
        due("no DAYS", x.years(7, 0), 0);
        // SEED 0: 12345, by 65536: 0; then 12345 * 1103515245 + 12345 = 13622895712050, left over 1406932606, by 65536: 21468.
        due("SEED 0, one DAY", x.years(0, 1), 0);
        // SEED 1: 1103527590, by 65536: 16838, even; then left over 377401575, by 65536: 5758, even.
        due("SEED 1, one DAY", x.years(1, 1), 0);
        for (int seed = 0; seed <= 999999; seed += 4013) {
            int left = seed;
            int followed = 0;
            for (int p = 0; p < 2; p++) {
                left = left * 1103515245 + 12345 & 0x7fffffff;
                followed += left >> 16 & 1;
            }
            due("SEED " + seed + ", one DAY", x.years(seed, 1), followed);
        }
        due("SEED 999999", x.years(999999, 0), 0);
        due("both in 60 DAYS", x.years(0, 60), 2);
        due("nothing is changed", x.digest(), digest);
        WantedLater y = townOf("town 1; one 0 30; one 0 30;");
        due("none on THE LIST", y.years(5, 60), 0);
        refused(x, "years(-1, 0)", x.years(-1, 0), digest, 0, WantedLater.BAD);
        refused(x, "years(1000000, 0)", x.years(1000000, 0), digest, 1, WantedLater.BAD);
        refused(x, "years(0, 61)", x.years(0, 61), digest, 2, WantedLater.BAD);
        refused(x, "years(0, -1)", x.years(0, -1), digest, 3, WantedLater.BAD);
    }

    private static void part() {
        promise = "27 part";
        WantedLater x = townOf("town 3; one 0 30; list 0;");
        due("part(0)", x.part(0), 0);
        due("part(1)", x.part(1), 1);
        x.odds(0, 1, 4);
        due("part(0)", x.part(0), 2);
        due("part(1)", x.part(1), 5);
        long digest = x.digest();
        refused(x, "part(2)", x.part(2), digest, 0, WantedLater.BAD);
        refused(x, "part(-1)", x.part(-1), digest, 1, WantedLater.BAD);
    }

    private static void image() {
        promise = "28 image";
        WantedLater x = townOf("town 3; one 0 30; list 0;");
        long digest = x.digest();
        refused(x, "image(2)", x.image(2), digest, 0, WantedLater.BAD);
        refused(x, "image(-1)", x.image(-1), digest, 1, WantedLater.BAD);
        due("image(1)", x.image(1), 1);
        due("the other is not kept", x.from(0), WantedLater.NO);
        x.day(1);
        due("image(0)", x.image(0), 1);
        x.day(1);
        due("from(1)", x.from(1), 1);
        due("as kept", x.digest(), digest);
        x.from(0);
        due("the other", x.count(1), 1);
        x.day(1);
        x.image(1);
        x.day(1);
        x.from(1);
        due("kept anew", x.count(1), 2);
    }

    private static void from() {
        promise = "29 from";
        WantedLater x = townOf("town 1; one 0 30; one 3 10; list 0; follow 0;");
        x.note(1, 2, 0, 3, 4);
        x.day(2);
        x.list(1, 1);
        x.image(0);
        x.clear();
        x.odds(1, 1, 5);
        due("from(1)", x.from(1), WantedLater.NO);
        x.town(4);
        x.one(2, 2);
        x.day(9);
        due("from(0)", x.from(0), 1);
        int[] counts = {2, 2, 1, 0, 1, 1, 3, 0};
        for (int what = 0; what <= 7; what++) {
            due("count(" + what + ")", x.count(what), counts[what]);
        }
        due("THE FRACTION stays", x.part(1), 2);
        due("STATUS stays", x.status(1), 1);
        due("COUNTS 1: rests(1)", x.rests(1), 9);
        due("KIND", x.of(1, 0), 3);
        due("what may be undone is kept", x.undo(), 2);
        due("THE LIST", x.count(2), 0);
        due("undo()", x.undo(), 1);
        due("undo()", x.undo(), 0);
        due("TEMPER", x.of(0, 1), 30);
        due("the IMAGE itself stays", x.from(0), 1);
        due("the IMAGE itself stays", x.count(6), 3);
        long digest = x.digest();
        refused(x, "from(2)", x.from(2), digest, 0, WantedLater.BAD);
        refused(x, "from(-1)", x.from(-1), digest, 1, WantedLater.BAD);
        refused(x, "from(1)", x.from(1), digest, 1, WantedLater.NO);
    }

    private static void status() {
        promise = "30 status";
        WantedLater x = new WantedLater();
        due("status(0)", x.status(0), 0);
        due("status(3)", x.status(3), -1);
        due("status(-1)", x.status(-1), -1);
        due("these count as BAD", x.status(0), 2);
        x.undo();
        due("status(1)", x.status(1), 1);
        for (int i = 0; i < 8; i++) {
            x.one(0, 0);
        }
        due("status(2)", x.status(2), 1);
        due("answers of NONE are none", x.when(0), WantedLater.NONE);
        due("a FAULT is none", x.read(), -10);
        due("status(0)", x.status(0), 2);
        due("status(1)", x.status(1), 1);
        due("status(2)", x.status(2), 1);
    }

    private static void count() {
        promise = "31 count";
        WantedLater x = townOf("town 3; one 0 18; one 0 17; one 2 30; list 0; follow 0; list 1; follow 1; follow 2;");
        x.day(1);
        x.note(0, 0, 0, 0, 0);
        x.note(0, 0, 0, 0, 0);
        x.list(0, 0);
        int[] counts = {3, 1, 1, 2, 1, 2, 2, 83};
        for (int what = 0; what <= 7; what++) {
            due("count(" + what + ")", x.count(what), counts[what]);
        }
        long digest = x.digest();
        refused(x, "count(8)", x.count(8), digest, 0, WantedLater.BAD);
        refused(x, "count(-1)", x.count(-1), digest, 1, WantedLater.BAD);
    }

    private static void digest() {
        promise = "32 digest";
        WantedLater x = townOf("town 4; one 3 18; one 5 17; list 0; follow 0; follow 1;");
        x.day(1);
        x.note(1, 98, 1, 97, 4);
        x.note(0, 1, 0, 2, 3);
        x.list(1, 1);
        x.odds(1, 1, 4);
        long[] rows = {2, 1, 1, 1, 1, 2, 2, 55, 4, 3, 22, 0, 0, 5, 21, 1, 1, 1, 98, 1, 97, 4, 0, 1, 0, 2, 3, 2, 5};
        long h = 1213;
        for (long v : rows) {
            h = 31 * h + v;
        }
        due("digest()", x.digest(), h);
        due("digest() anew", x.digest(), h);
    }
}
