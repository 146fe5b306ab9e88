/** Towns for the tests to begin with. */
final class Towns {
    private Towns() {
    }

    /** COUNTS, and of each one KIND and TEMPER, as they come. */
    static WantedLater of(int counts, int... ones) {
        WantedLater x = new WantedLater();
        x.town(counts);
        for (int i = 0; i + 1 < ones.length; i += 2) {
            x.one(ones[i], ones[i + 1]);
        }
        return x;
    }

    /** Just these (bits) are put on THE LIST, and nothing is told of the others. */
    static WantedLater list(WantedLater x, int bits) {
        for (int p = 0; p < 7; p++) {
            if ((bits >> p & 1) == 1) {
                x.list(p, 1);
            }
        }
        return x;
    }

    /** Just these (bits) are FOLLOWED from now on, and nothing is told of the others. */
    static WantedLater follow(WantedLater x, int bits) {
        for (int p = 0; p < 7; p++) {
            if ((bits >> p & 1) == 1) {
                x.follow(p, 1);
            }
        }
        return x;
    }

    /** These (bits) are on THE LIST and FOLLOWED. */
    static WantedLater wanted(WantedLater x, int bits) {
        return follow(list(x, bits), bits);
    }

    /** One of a KIND who is of this TEMPER on this DAY; he comes of TEMPER t + d, and falls. */
    static WantedLater oneOn(int d, int counts, int kind, int t) {
        WantedLater x = of(counts, kind, t + d);
        if (d > 0) {
            x.day(d);
        }
        return x;
    }

    /** Types a text behind THE TEXT. */
    static void type(WantedLater x, String text) {
        for (int i = 0; i < text.length(); i++) {
            x.type(text.charAt(i));
        }
    }

    /** What reading just this text answers. */
    static int read(WantedLater x, String text) {
        x.clear();
        type(x, text);
        return x.read();
    }

    /** Who is (bits): on THE LIST (2) or FOLLOWED (3). */
    static int who(WantedLater x, int what) {
        int bits = 0;
        for (int p = 0; p < x.count(0); p++) {
            bits |= x.of(p, what) << p;
        }
        return bits;
    }
}
