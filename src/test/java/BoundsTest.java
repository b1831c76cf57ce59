/** The bounds of the calls, from either side: the last that can be, the first that can't. */
public final class BoundsTest {
    private interface Call {
        Object on(JellyCathedral x, int n);
    }

    private static final int LEAST = Integer.MIN_VALUE;
    private static final int MOST = Integer.MAX_VALUE;
    // The STATUS of the numbers within is looked at elsewhere: here it is any but that of those without.
    private static final int ANY = -1;

    public static void main(String[] args) {
        trayNumbers();
        thingNumbers();
        otherNumbers();
        trayLengths();
        cutNumbers();
        placesOfATray();
        decantBounds();
        tapeBounds();
        faultBounds();
        setsOfMoulds();
        copyFirmBounds();
        pourBounds();
        emptyBounds();
        knockBounds();
        touchBounds();
        carryBounds();
        settingBounds();
        softeningBounds();
        lastMinute();
        warmBuyRuleBounds();
        firmInBounds();
        lastsBounds();
        waitsBounds();
        fallInBounds();
        aheadOfTheLastMinute();
        mixBounds();
        mixOrder();
        strongestAndFillings();
        shakenBounds();
        wayBounds();
        reachBounds();
        fitsNumbers();
        fitsBounds();
        askBounds();
        gameBounds();
        moveBounds();
        bubblesBounds();
        poiseBounds();
        Check.end();
    }

    /** One mould, and heat 8, by which it is 1 more firm a minute, up to 81. */
    private static JellyCathedral setting(int height, int firm) {
        JellyCathedral x = Check.ofSee("heat 8;stuff s sets 9 costs 1 stock 99;place p;place q;place r;walk p q shakes 5;"
            + "mould m high " + height + " holds 9 at p;");
        x.pour(0, 0, 9);
        if (firm > 0) {
            x.minute(firm);
        }
        return x;
    }

    private static JellyCathedral standing(int height, int firm) {
        JellyCathedral x = setting(height, firm);
        Check.due("stands at " + height + " by " + firm, x, x.knock(0), 1, 0);
        return x;
    }

    private static void within(String what, JellyCathedral x, Call call, int fine, int... numbers) {
        for (int n : numbers) {
            call.on(x, n);
            if (fine != ANY) {
                Check.due(what + " of " + n + " status", fine, x.status());
            }
        }
    }

    private static void without(String what, JellyCathedral x, Call call, int status, int... numbers) {
        for (int n : numbers) {
            Check.refused(what + " of " + n, x, call.on(x, n), status);
        }
    }

    private static void edges(String what, JellyCathedral x, Call call, int least, int most, int fine, int status) {
        for (int n : new int[] {least, most}) {
            call.on(x, n);
            Check.due(what + " of " + n + " is not " + status, true, x.status() != status);
        }
        within(what, x, call, fine, least, most);
        without(what, x, call, status, least - 1, most + 1, LEAST, MOST);
    }

    // ---- numbers of TRAYS, of things, and others

    private static void trayNumbers() {
        JellyCathedral x = Check.ofSee(Check.SEE);
        edges("tray", x, (y, n) -> y.tray(n, 1, 2), 0, 3, 0, 1);
        x.tray(1, 1, 2);
        x.tray(2, 1, 2);
        edges("sort", x, (y, n) -> y.tray(0, n, 2), 0, 3, 0, 1);
        x.tray(0, 1, 2);
        edges("write", x, (y, n) -> y.write(n, 1, 7), 0, 3, 0, 1);
        edges("read", x, (y, n) -> y.read(n, 1), 0, 3, 0, 1);
        edges("decant from", x, (y, n) -> y.decant(n, 0, 1, 0, 1), 0, 3, 0, 1);
        edges("decant to", x, (y, n) -> y.decant(1, 0, n, 0, 1), 0, 3, 0, 1);
        edges("copyFirm", x, (y, n) -> y.copyFirm(n), 0, 3, 0, 1);
        edges("fits", x, (y, n) -> y.fits(0, n, 0), 0, 3, 0, 1);
        edges("fitsBy", x, (y, n) -> y.fitsBy(0, n, 0, 0), 0, 3, 0, 1);
        edges("ask", x, (y, n) -> y.ask(0, n, 0), 0, 3, 0, 1);
    }

    private static void thingNumbers() {
        JellyCathedral x = Check.ofSee(Check.SEE);
        x.tray(0, 1, 0);
        edges("stuff", x, (y, n) -> y.stuff(n, 0), 0, 2, 0, 2);
        edges("mould", x, (y, n) -> y.mould(n, 0), 0, 1, 0, 2);
        edges("part, mould", x, (y, n) -> y.part(n, 0), 0, 1, 0, 2);
        edges("part, stuff", x, (y, n) -> y.part(0, n), 0, 2, 0, 2);
        edges("buy", x, (y, n) -> y.buy(n, 9), 0, 2, 0, 2);
        edges("empty", x, (y, n) -> y.empty(n), 0, 1, 9, 2);
        edges("knock", x, (y, n) -> y.knock(n), 0, 1, 9, 2);
        edges("touch", x, (y, n) -> y.touch(n), 0, 1, 9, 2);
        edges("firmIn", x, (y, n) -> y.firmIn(n, 0), 0, 1, 0, 2);
        edges("lasts", x, (y, n) -> y.lasts(n), 0, 1, 9, 2);
        edges("waits", x, (y, n) -> y.waits(n, 0), 0, 1, 9, 2);
        edges("mix", x, (y, n) -> y.mix(n, 0), 0, 1, 0, 2);
        edges("mixPart, mould", x, (y, n) -> y.mixPart(n, 0, 0), 0, 1, 0, 2);
        edges("mixPart, stuff", x, (y, n) -> y.mixPart(0, 0, n), 0, 2, 0, 2);
        edges("strongest", x, (y, n) -> y.strongest(n), 0, 1, 0, 2);
        edges("fillings", x, (y, n) -> y.fillings(n), 0, 1, 0, 2);
        edges("shaken, place", x, (y, n) -> y.shaken(n, 0), 0, 2, 0, 2);
        edges("shaken, other", x, (y, n) -> y.shaken(0, n), 0, 2, 0, 2);
        edges("way, place", x, (y, n) -> y.way(n, 0, 0), 0, 2, 0, 2);
        edges("way, other", x, (y, n) -> y.way(0, n, 0), 0, 2, 0, 2);
        edges("reach", x, (y, n) -> y.reach(n), 0, 1, 9, 2);
        edges("fits", x, (y, n) -> y.fits(n, 0, 0), 0, 1, 0, 2);
        edges("fitsBy", x, (y, n) -> y.fitsBy(n, 0, 0, 0), 0, 1, 0, 2);
        edges("ask", x, (y, n) -> y.ask(n, 0, 0), 0, 1, 0, 2);
        edges("game, mould", x, (y, n) -> y.game(n, n == 0 ? 1 : 0, 1), 0, 1, 0, 2);
        edges("game, other", x, (y, n) -> y.game(n == 0 ? 1 : 0, n, 1), 0, 1, 0, 2);
        edges("moveOf, mould", x, (y, n) -> y.moveOf(n, n == 0 ? 1 : 0, 1), 0, 1, 0, 2);
        edges("moveOf, other", x, (y, n) -> y.moveOf(n == 0 ? 1 : 0, n, 1), 0, 1, 0, 2);
        edges("poise", x, (y, n) -> y.poise(n), 0, 1, 9, 2);
        edges("pour, mould", x, (y, n) -> y.pour(n, 1, 1), 0, 1, 0, 2);
        x = Check.ofSee(Check.SEE);
        edges("pour, stuff", x, (y, n) -> y.pour(0, n, 1), 0, 2, 0, 2);
        edges("carry, mould", x, (y, n) -> y.carry(n, 1), 0, 1, ANY, 2);
        edges("carry, place", x, (y, n) -> y.carry(0, n), 0, 2, ANY, 2);
        // Of a SEE of nothing there is none, not even the first.
        JellyCathedral none = new JellyCathedral();
        none.tray(0, 0, 1);
        without("of nothing: stuff", none, (y, n) -> y.stuff(n, 0), 2, 0);
        without("of nothing: mould", none, (y, n) -> y.mould(n, 0), 2, 0);
        without("of nothing: shaken", none, (y, n) -> y.shaken(n, n), 2, 0);
        without("of nothing: fillings", none, (y, n) -> y.fillings(n), 2, 0);
        without("of nothing: fits", none, (y, n) -> y.fits(n, 0, 0), 2, 0);
        without("of nothing: game", none, (y, n) -> y.game(n, 1, 0), 2, 0);
    }

    private static void otherNumbers() {
        JellyCathedral x = Check.ofSee(Check.SEE);
        x.tray(0, 1, 60);
        edges("many", x, (y, n) -> y.many(n), 0, 10, 0, 5);
        edges("stuff what", x, (y, n) -> y.stuff(0, n), 0, 2, 0, 5);
        edges("mould what", x, (y, n) -> y.mould(0, n), 0, 7, 0, 5);
        edges("parts", x, (y, n) -> y.pour(0, 0, n), 1, 9, ANY, 5);
        edges("minute", x, (y, n) -> y.minute(n), 1, 99, 0, 5);
        edges("warm", x, (y, n) -> y.warm(n), 0, 9, 0, 5);
        edges("buy", x, (y, n) -> y.buy(0, n), 1, 99, 0, 5);
        edges("rule", x, (y, n) -> y.rule(n), 0, 16, 0, 5);
        edges("firmIn", x, (y, n) -> y.firmIn(0, n), 0, 300, 0, 5);
        edges("waits", x, (y, n) -> y.waits(0, n), 0, 99, 9, 5);
        edges("mix", x, (y, n) -> y.mix(0, n), 0, 81, ANY, 5);
        edges("mixPart", x, (y, n) -> y.mixPart(0, n, 0), 0, 81, ANY, 5);
        edges("fitsBy what", x, (y, n) -> y.fitsBy(0, 0, 0, n), 0, 1, 0, 5);
        edges("game turns", x, (y, n) -> y.game(0, 1, n), 0, 4, 0, 5);
        edges("moveOf turns", x, (y, n) -> y.moveOf(0, 1, n), 1, 4, 0, 5);
        edges("bubbles n", x, (y, n) -> y.bubbles(n, 3), 0, 12, 0, 5);
        edges("bubbles k", x, (y, n) -> y.bubbles(3, n), 0, 12, 0, 5);
        Check.feasts(x, "stop;");
        x.live(0);
        edges("live", x, (y, n) -> y.live(n), 0, 9999, 0, 5);
        edges("lived", x, (y, n) -> y.lived(n), 0, 4, 0, 5);
        edges("mean seed", x, (y, n) -> y.mean(n, 1), 0, 9999, 0, 5);
        edges("mean many", x, (y, n) -> y.mean(0, n), 1, 20, 0, 5);
        edges("the last seed of 20", x, (y, n) -> y.mean(n, 20), 0, 9980, 0, 5);
        edges("seeds from 9990 on", x, (y, n) -> y.mean(9990, n), 1, 10, 0, 5);
    }

    // ---- TRAYS

    private static void trayLengths() {
        for (int sort = 0; sort < 4; sort++) {
            JellyCathedral x = new JellyCathedral();
            int s = sort;
            within("length", x, (y, n) -> y.tray(1, s, n), 0, 0, 1, 59, 60);
            without("too long", x, (y, n) -> y.tray(1, s, n), 5, 61, 62, MOST);
            without("below 0", x, (y, n) -> y.tray(1, s, n), 6, -1, -2, LEAST);
            Check.due("the row stays", x, x.read(1, 59), 0, 0);
        }
        JellyCathedral x = new JellyCathedral();
        for (int t = 0; t < 4; t++) {
            Check.refused("missing at first", x, x.read(t, 0), 3);
            Check.refused("missing at first", x, x.write(t, 0, 1), 3);
            Check.refused("missing at first", x, x.copyFirm(t), 3);
        }
        x.tray(2, 0, 0);
        Check.refused("a row of none has no first", x, x.read(2, 0), 4);
        Check.refused("a row of none has no first", x, x.write(2, 0, 1), 4);
        Check.refused("the others are missing", x, x.read(1, 0), 3);
        x.tray(2, 3, 2);
        x.write(2, 0, Long.MIN_VALUE);
        x.write(2, 1, 8);
        x.tray(2, 3, 2);
        Check.due("all 0 again", x, x.read(2, 0), 0, 0);
        Check.due("all 0 again", x, x.read(2, 1), 0, 0);
        x.write(2, 1, 8);
        x.tray(2, 3, 1);
        x.tray(2, 3, 2);
        Check.due("all 0 behind a shorter one", x, x.read(2, 1), 0, 0);
        x.write(2, 0, 300);
        Check.refused("refused", x, x.tray(2, 0, 61), 5);
        Check.due("its sort stays", x, x.read(2, 0), 300, 0);
        x.write(2, 0, 1L << 40);
        Check.due("its sort stays", x, x.read(2, 0), 1L << 40, 0);
    }

    private static void cutNumbers() {
        JellyCathedral x = new JellyCathedral();
        for (int sort = 0; sort < 3; sort++) {
            int bits = 8 << sort;
            long half = 1L << bits - 1;
            x.tray(0, sort, 3);
            long[][] wrote = {{0, 0}, {1, 1}, {-1, -1}, {half - 1, half - 1}, {half, -half}, {half + 1, 1 - half}, {-half, -half},
                {-half - 1, half - 1}, {2 * half - 1, -1}, {2 * half, 0}, {2 * half + 1, 1}, {-2 * half, 0}, {Long.MAX_VALUE, -1},
                {Long.MIN_VALUE, 0}, {3 * half, -half}};
            for (long[] w : wrote) {
                Check.due("write", x, x.write(0, 1, w[0]), true, 0);
                Check.due(w[0] + " of " + bits + " bits", x, x.read(0, 1), w[1], 0);
                Check.due("the one ahead", 0, x.read(0, 0));
                Check.due("the one behind", 0, x.read(0, 2));
            }
        }
        x.tray(0, 3, 1);
        for (long v : new long[] {0, -1, 1L << 31, 1L << 32, Long.MAX_VALUE, Long.MIN_VALUE, Long.MIN_VALUE + 1}) {
            x.write(0, 0, v);
            Check.due("64 bits", x, x.read(0, 0), v, 0);
        }
    }

    private static void placesOfATray() {
        for (int length = 1; length <= 60; length += 59) {
            JellyCathedral x = new JellyCathedral();
            x.tray(3, 2, length);
            edges("read", x, (y, n) -> y.read(3, n), 0, length - 1, 0, 4);
            edges("write", x, (y, n) -> y.write(3, n, 5), 0, length - 1, 0, 4);
            Check.due("the first", x, x.read(3, 0), 5, 0);
            Check.due("the last", x, x.read(3, length - 1), 5, 0);
        }
    }

    private static JellyCathedral twoTrays() {
        JellyCathedral x = new JellyCathedral();
        x.tray(0, 1, 5);
        x.tray(1, 1, 3);
        for (int i = 0; i < 5; i++) {
            x.write(0, i, 10 + i);
        }
        return x;
    }

    private static void row(String what, JellyCathedral x, int tray, long... want) {
        for (int i = 0; i < want.length; i++) {
            Check.due(what + ", place " + i, x, x.read(tray, i), want[i], 0);
        }
        Check.due(what + " has no more", x, x.read(tray, want.length), -1, 4);
    }

    private static void decantBounds() {
        edges("from", twoTrays(), (y, n) -> y.decant(0, n, 1, 0, 2), 0, 3, 0, 4);
        edges("to", twoTrays(), (y, n) -> y.decant(0, 0, 1, n, 2), 0, 1, 0, 4);
        JellyCathedral x = twoTrays();
        within("many", x, (y, n) -> y.decant(0, 0, 1, 0, n), 0, 0, 1, 2, 3);
        without("too many", x, (y, n) -> y.decant(0, 0, 1, 0, n), 4, 4, 5, 6, MOST);
        without("below 0", x, (y, n) -> y.decant(0, 0, 1, 0, n), 6, -1, LEAST);
        within("many of its own", x, (y, n) -> y.decant(0, 0, 0, 0, n), 0, 0, 5);
        without("too many of its own", x, (y, n) -> y.decant(0, 0, 0, 0, n), 4, 6);
        row("the row stays", x, 0, 10, 11, 12, 13, 14);
        x = twoTrays();
        Check.refused("one too many in the end", x, x.decant(0, 3, 1, 0, 3), 4);
        Check.refused("one too many in the end", x, x.decant(0, 0, 1, 1, 3), 4);
        row("nothing came", x, 1, 0, 0, 0);
        x.decant(0, 2, 1, 0, 3);
        row("the last three", x, 1, 12, 13, 14);
        row("they stay, too", x, 0, 10, 11, 12, 13, 14);
        x.decant(0, 0, 0, 1, 4);
        row("up, as they were", x, 0, 10, 10, 11, 12, 13);
        x.decant(0, 2, 0, 0, 3);
        row("down, as they were", x, 0, 11, 12, 13, 12, 13);
        Check.refused("places far off", x, x.decant(0, MOST, 1, 0, 1), 4);
        Check.refused("places far off", x, x.decant(0, 0, 1, MOST, 1), 4);
        Check.refused("places far off", x, x.decant(0, LEAST, 1, 0, MOST), 4);
        Check.refused("places far off", x, x.decant(0, MOST, 1, MOST, MOST), 4);
        for (int a = 0; a < 4; a++) {
            for (int b = 0; b < 4; b++) {
                x.tray(0, a, 1);
                x.tray(1, b, 1);
                Check.due("sorts " + a + " " + b, x, x.decant(0, 0, 1, 0, 1), a == b, a == b ? 0 : 11);
            }
        }
        x.tray(0, 0, 0);
        x.tray(1, 0, 0);
        Check.due("none of none", x, x.decant(0, 0, 1, 0, 0), true, 0);
        Check.refused("one of none", x, x.decant(0, 0, 1, 0, 1), 4);
    }

    // ---- the tape, faults

    private static void tapeBounds() {
        JellyCathedral x = new JellyCathedral();
        Check.due("the highest byte first", 20, x.feed(0x706c6163, 0x65206162, 0x63646566, 0x67683b68, 0x65617420));
        for (int i = 2; i < 45; i++) {
            Check.due("feed", i * 20, x.feed(0x20202020, 0x20202020, 0x20202020, 0x20202020, 0x20202020));
        }
        Check.due("at last", 900, x.feed(0x20202020, 0x20202020, 0x20202020, 0x20202020, 0x2020373b));
        Check.due("more than 900", -1, x.feed(0x3b3b3b3b, 0x3b3b3b3b, 0x3b3b3b3b, 0x3b3b3b3b, 0x3b3b3b3b));
        Check.refused("901 of 900", x, x.see(901), 5);
        Check.due("900", x, x.see(900), 0, 0);
        Check.due("heat 7", 7, x.many(3));
        Check.due("the tape is empty", 20, x.feed(-1, LEAST, MOST, 0, 1));
        Check.refused("a byte of 255", x, x.see(20), 10);
        Check.due("begins no TOKEN", 1, x.fault(0));
        x = new JellyCathedral();
        within("see", x, (y, n) -> y.see(n), 0, 0);
        without("see", x, (y, n) -> y.see(n), 5, -1, 1, LEAST, MOST);
        within("feasts", x, (y, n) -> y.feasts(n), 0, 0);
        without("feasts", x, (y, n) -> y.feasts(n), 5, -1, 1, LEAST, MOST);
        Check.feed(x, new byte[20]);
        without("see of 20", x, (y, n) -> y.see(n), 5, -1, 21);
        without("feasts of 20", x, (y, n) -> y.feasts(n), 5, -1, 21);
        Check.due("the tape stays", 40, x.feed(0x20202020, 0x20202020, 0x20202020, 0x20202020, 0x20202020));
        Check.refused("all 40", x, x.see(40), 10);
        Check.due("is empty", 20, x.feed(0x20202020, 0x20202020, 0x20202020, 0x20202020, 0x20202020));
        Check.due("all 20", x, x.feasts(20), 0, 0);
        Check.due("is empty", 20, x.feed(0x20202020, 0x20202020, 0x20202020, 0x20202020, 0x20202020));
        Check.due("none of 20", x, x.feasts(0), 0, 0);
        Check.due("is empty", 20, x.feed(0x20202020, 0x20202020, 0x20202020, 0x20202020, 0x20202020));
        x = new JellyCathedral();
        Check.feed(x, Check.bytes(" ".repeat(320)));
        without("above 300", x, (y, n) -> y.feasts(n), 5, 301, 320, 321);
        Check.due("300 blanks", x, x.feasts(300), 0, 0);
        Check.feed(x, Check.bytes(" ".repeat(320)));
        Check.due("a SEE may be above 300", x, x.see(320), 0, 0);
    }

    private static void faultBounds() {
        JellyCathedral x = new JellyCathedral();
        for (int what : new int[] {LEAST, -1, 0, 1, 2, MOST}) {
            Check.due("ahead of any", -1, x.fault(what));
        }
        x.see(1);
        x.feasts(-1);
        Check.due("5 tells none", -1, x.fault(0));
        x.see(0);
        int[][] fine = {{LEAST, -1}, {-1, -1}, {0, 0}, {1, -1}, {2, -1}, {MOST, -1}};
        for (int[] f : fine) {
            Check.due("without one", f[1], x.fault(f[0]));
        }
        Check.see(x, "heat 3;  heat 4;");
        int[][] bad = {{LEAST, -1}, {-1, -1}, {0, 5}, {1, 9}, {2, -1}, {MOST, -1}};
        for (int[] f : bad) {
            Check.due("of a SEE", f[1], x.fault(f[0]));
        }
        x.many(0);
        x.many(11);
        x.feasts(1);
        x.feed(0, 0, 0, 0, 0);
        x.see(21);
        Check.due("stays by others", 5, x.fault(0));
        Check.due("its STATUS stays", 5, x.status());
        x.feasts(20);
        Check.due("of FEASTS", 1, x.fault(0));
        Check.due("of FEASTS", 0, x.fault(1));
        x.feasts(0);
        Check.due("without one", 0, x.fault(0));
        Check.due("without one", -1, x.fault(1));
    }

    // ---- what is told

    private static void setsOfMoulds() {
        StringBuilder text = new StringBuilder("heat 0;stuff s sets 9 costs 1;place p;");
        for (int i = 0; i < 5; i++) {
            text.append("mould m").append((char) ('a' + i)).append(" high 9 holds 1 at p;");
        }
        JellyCathedral x = Check.ofSee(text.toString());
        Check.due("VOID", x, x.many(8), 31, 0);
        Check.due("SET", x, x.many(9), 0, 0);
        Check.due("STAND", x, x.many(10), 0, 0);
        for (int i = 4; i >= 0; i--) {
            x.pour(i, 0, 1);
            Check.due("VOID", x, x.many(8), (1 << i) - 1, 0);
            Check.due("SET", x, x.many(9), 31 - (1 << i) + 1, 0);
        }
        x.minute(1);
        x.knock(0);
        x.knock(4);
        Check.due("VOID", x, x.many(8), 0, 0);
        Check.due("SET", x, x.many(9), 14, 0);
        Check.due("STAND", x, x.many(10), 17, 0);
        x.warm(1);
        Check.due("both fall", x, x.minute(1), 2, 0);
        Check.due("VOID", x, x.many(8), 17, 0);
    }

    private static void copyFirmBounds() {
        JellyCathedral x = Check.ofSee(Check.SEE);
        x.pour(1, 0, 1);
        x.minute(1);
        x.tray(0, 0, 1);
        x.write(0, 0, 5);
        Check.refused("one too few", x, x.copyFirm(0), 4);
        Check.due("nothing came", x, x.read(0, 0), 5, 0);
        x.tray(0, 0, 0);
        Check.refused("none", x, x.copyFirm(0), 4);
        x.tray(0, 0, 2);
        Check.due("just enough", x, x.copyFirm(0), 2, 0);
        row("of both", x, 0, 0, 6);
        x.tray(0, 0, 4);
        x.write(0, 0, 7);
        x.write(0, 2, 7);
        x.write(0, 3, 7);
        Check.due("more than enough", x, x.copyFirm(0), 2, 0);
        row("the rest stays", x, 0, 0, 6, 7, 7);
        x = new JellyCathedral();
        x.tray(0, 0, 0);
        Check.due("of no MOULDS", x, x.copyFirm(0), 0, 0);
        JellyCathedral full = setting(1, 81);
        for (int sort = 0; sort < 4; sort++) {
            full.tray(0, sort, 1);
            full.copyFirm(0);
            Check.due("the firmest fits", full, full.read(0, 0), 81, 0);
        }
    }

    // ---- what is done

    private static void pourBounds() {
        String see = "stuff s sets 2 costs 99 stock 3;stuff t sets 0 costs 0 stock 0;place p;mould m high 1 holds 3 at p;"
            + "mould n high 1 holds 9 at p;";
        JellyCathedral x = Check.ofSee(see);
        Check.refused("one more than the STOCK", x, x.pour(1, 0, 4), 9);
        Check.refused("nothing in STOCK", x, x.pour(1, 1, 1), 9);
        Check.refused("one more than the ROOM", x, x.pour(0, 0, 4), 9);
        Check.due("all the STOCK, all the ROOM", x, x.pour(0, 0, 3), 3, 0);
        Check.due("STOCK", 0, x.stuff(0, 2));
        Check.due("SPENT", 297, x.many(6));
        Check.refused("the STOCK is gone", x, x.pour(1, 0, 1), 9);
        x.buy(0, 9);
        Check.refused("the ROOM is gone", x, x.pour(0, 0, 1), 9);
        Check.due("SPENT", 297, x.many(6));
        Check.due("parts", x, x.pour(1, 0, 8), 8, 0);
        Check.refused("one more than is left", x, x.pour(1, 0, 2), 9);
        Check.due("what is left", x, x.pour(1, 0, 1), 9, 0);
        Check.due("all nine of them", x, x.part(1, 0), 9, 0);
        Check.due("SPENT", 297 + 9 * 99, x.many(6));
        x = setting(30, 17);
        Check.due("firm", 17, x.mould(0, 4));
        x.empty(0);
        x.pour(0, 0, 8);
        x.minute(40);
        Check.due("firm", 40, x.mould(0, 4));
        Check.refused("refused", x, x.pour(0, 0, 2), 9);
        Check.due("as firm", 40, x.mould(0, 4));
        Check.due("SETS", x, x.pour(0, 0, 1), 9, 0);
        Check.due("FIRM is 0 then", 0, x.mould(0, 4));
        x.minute(30);
        x.knock(0);
        Check.refused("it STANDS", x, x.pour(0, 0, 1), 9);
        Check.due("as firm", 30, x.mould(0, 4));
    }

    private static void emptyBounds() {
        JellyCathedral x = setting(5, 0);
        Check.due("SETS", x, x.empty(0), 9, 0);
        Check.refused("it is VOID", x, x.empty(0), 9);
        Check.due("the STOCK is gone", 90, x.stuff(0, 2));
        Check.due("SPENT stays", 9, x.many(6));
        Check.due("it did not fall", 0, x.many(7));
        x.pour(0, 0, 1);
        Check.due("one part", x, x.empty(0), 1, 0);
        x = standing(5, 5);
        Check.due("STANDS", x, x.empty(0), 9, 0);
        Check.due("VOID", 1, x.many(8));
        Check.due("not firm", 0, x.mould(0, 4));
        x = setting(5, 4);
        x.knock(0);
        Check.refused("it fell", x, x.empty(0), 9);
    }

    private static void knockBounds() {
        for (int height : new int[] {1, 9, 10, 30}) {
            JellyCathedral x = setting(height, height - 1);
            Check.due("1 below its HEIGHT", x, x.knock(0), 0, 0);
            Check.due("VOID", 0, x.mould(0, 3));
            Check.due("fell", 1, x.mould(0, 7));
            Check.due("no parts", 0, x.mould(0, 6));
            Check.due("no STRENGTH", 0, x.mould(0, 5));
            Check.refused("VOID", x, x.knock(0), 9);
            Check.due("fell once", 1, x.many(7));
            x = setting(height, height);
            Check.due("its HEIGHT", x, x.knock(0), 1, 0);
            Check.due("STANDS", 2, x.mould(0, 3));
            Check.due("as firm", height, x.mould(0, 4));
            Check.due("fell never", 0, x.mould(0, 7));
            Check.refused("STANDS", x, x.knock(0), 9);
        }
        JellyCathedral x = setting(1, 0);
        x.empty(0);
        Check.refused("VOID", x, x.knock(0), 9);
        x.pour(0, 0, 1);
        Check.refused("one of nine", x, x.knock(0), 9);
        x.pour(0, 0, 7);
        x.minute(50);
        Check.refused("eight of nine", x, x.knock(0), 9);
        Check.due("SETS", 1, x.mould(0, 3));
        x.pour(0, 0, 1);
        x.minute(1);
        Check.due("nine of nine", x, x.knock(0), 1, 0);
    }

    private static void touchBounds() {
        int[][] less = {{1, 1}, {8, 1}, {9, 1}, {10, 2}, {11, 2}, {30, 2}};
        for (int[] l : less) {
            JellyCathedral x = standing(l[0], l[0] + l[1]);
            Check.due("down to its HEIGHT " + l[0], x, x.touch(0), l[0], 0);
            Check.due("STANDS", 2, x.mould(0, 3));
            Check.due("below", x, x.touch(0), 0, 0);
            Check.due("VOID", 0, x.mould(0, 3));
            Check.due("fell", 1, x.mould(0, 7));
            Check.refused("VOID", x, x.touch(0), 9);
            x = standing(l[0], l[0] + l[1] - 1);
            Check.due("below its HEIGHT", x, x.touch(0), 0, 0);
        }
        JellyCathedral x = setting(1, 5);
        Check.refused("SETS", x, x.touch(0), 9);
        Check.due("as firm", 5, x.mould(0, 4));
    }

    private static void carryBounds() {
        for (int firm = 13; firm <= 16; firm++) {
            JellyCathedral x = standing(10, firm);
            Check.due("shaken", x, x.carry(0, 1), 5, 0);
            Check.due("there", 1, x.mould(0, 2));
            boolean stands = firm >= 15;
            Check.due("STANDS or fell", stands ? 2 : 0, x.mould(0, 3));
            Check.due("firm", stands ? firm - 5 : 0, x.mould(0, 4));
            Check.due("fell", stands ? 0 : 1, x.mould(0, 7));
        }
        JellyCathedral x = setting(10, 3);
        Check.refused("it is there", x, x.carry(0, 0), 9);
        Check.refused("no way", x, x.carry(0, 2), 8);
        Check.due("where it was", 0, x.mould(0, 2));
        Check.due("SETS", x, x.carry(0, 1), 5, 0);
        Check.due("as firm", 3, x.mould(0, 4));
        Check.due("did not fall", 0, x.many(7));
        x.empty(0);
        Check.due("VOID", x, x.carry(0, 0), 5, 0);
        Check.due("did not fall", 0, x.many(7));
        x = Check.ofSee("heat 0;stuff s sets 9 costs 1;place p;place q;walk p q shakes 0;mould m high 9 holds 1 at p;");
        x.pour(0, 0, 1);
        x.minute(1);
        x.knock(0);
        Check.due("shaken by nothing", x, x.carry(0, 1), 0, 0);
        Check.due("is somewhere else", 1, x.mould(0, 2));
        Check.due("STANDS", 2, x.mould(0, 3));
    }

    private static void settingBounds() {
        for (int heat = 0; heat <= 9; heat++) {
            JellyCathedral x = Check.ofSee("heat " + heat + ";stuff s sets 9 costs 1;stuff t sets 2 costs 1;place p;"
                + "mould m high 1 holds 3 at p;mould n high 1 holds 3 at p;mould o high 1 holds 1 at p;");
            x.pour(0, 0, 1);
            x.pour(0, 1, 1);
            x.pour(1, 0, 2);
            for (int i = 1; i <= 20; i++) {
                x.minute(1);
                Check.due("11 at most", Math.min(11, i * (9 - heat)), x.mould(0, 4));
                Check.due("18 at most", Math.min(18, i * (9 - heat)), x.mould(1, 4));
                Check.due("VOID", 0, x.mould(2, 4));
            }
        }
        JellyCathedral x = setting(5, 0);
        x.empty(0);
        x.pour(0, 0, 9);
        Check.due("80", x, x.minute(80), 0, 0);
        Check.due("80", 80, x.mould(0, 4));
        x.minute(1);
        Check.due("81", 81, x.mould(0, 4));
        x.minute(99);
        Check.due("81 at most", 81, x.mould(0, 4));
        x = Check.ofSee("heat 0;stuff s sets 0 costs 1;place p;mould m high 1 holds 1 at p;");
        x.pour(0, 0, 1);
        x.minute(99);
        Check.due("a STRENGTH of 0", 0, x.mould(0, 4));
        Check.due("falls", x, x.knock(0), 0, 0);
    }

    private static void softeningBounds() {
        for (int heat = 0; heat <= 9; heat++) {
            JellyCathedral at = standing(10, 10 + heat);
            if (heat != 8) {
                at.warm(heat);
            }
            Check.due("down to its HEIGHT", at, at.minute(1), 0, 0);
            Check.due("firm", 10, at.mould(0, 4));
            Check.due("then below", at, at.minute(1), heat == 0 ? 0 : 1, 0);
            JellyCathedral once = standing(10, 60);
            JellyCathedral oneByOne = standing(10, 60);
            if (heat != 8) {
                once.warm(heat);
                oneByOne.warm(heat);
            }
            int fell = 0;
            for (int i = 0; i < 40; i++) {
                fell += oneByOne.minute(1);
            }
            Check.due("40 as one by one", once, once.minute(40), fell, 0);
            for (int w = 0; w < 8; w++) {
                Check.due("40 as one by one, " + w, oneByOne.mould(0, w), once.mould(0, w));
            }
            Check.due("the MINUTE", 100, once.many(5));
        }
        // How many fell in these MINUTES, not ahead of them; and each as often as it did.
        JellyCathedral x = Check.ofSee("heat 0;stuff s sets 9 costs 1;place p;mould m high 9 holds 1 at p;"
            + "mould n high 8 holds 1 at p;mould o high 1 holds 1 at p;");
        for (int round = 1; round <= 3; round++) {
            for (int m = 0; m < 3; m++) {
                x.pour(m, 0, 1);
            }
            x.minute(1);
            for (int m = 0; m < 3; m++) {
                x.knock(m);
            }
            x.warm(1);
            Check.due("the first falls", x, x.minute(1), 1, 0);
            Check.due("the second falls", x, x.minute(1), 1, 0);
            Check.due("none falls", x, x.minute(6), 0, 0);
            Check.due("the third falls", x, x.minute(99), 1, 0);
            Check.due("fell in all", 3 * round, x.many(7));
            Check.due("fell", round, x.mould(2, 7));
            x.warm(0);
        }
    }

    private static void lastMinute() {
        JellyCathedral x = Check.ofSee("heat 8;stuff s sets 9 costs 1;place p;mould m high 1 holds 9 at p;");
        for (int i = 0; i < 100; i++) {
            x.minute(99);
        }
        x.minute(49);
        Check.due("MINUTE", 9949, x.many(5));
        x.pour(0, 0, 9);
        Check.refused("to 10,000", x, x.minute(51), 7);
        Check.refused("beyond", x, x.minute(99), 7);
        Check.due("MINUTE", 9949, x.many(5));
        Check.due("as firm", 0, x.mould(0, 4));
        Check.due("to 9,999", x, x.minute(50), 0, 0);
        Check.due("MINUTE", 9999, x.many(5));
        Check.due("firm", 50, x.mould(0, 4));
        Check.refused("none more", x, x.minute(1), 7);
        Check.due("firm", 50, x.mould(0, 4));
        Check.due("MINUTE 0 of a new SEE", x, x.see(0), 0, 0);
        Check.due("one more", x, x.minute(1), 0, 0);
    }

    private static void warmBuyRuleBounds() {
        for (int heat = 0; heat <= 9; heat++) {
            JellyCathedral x = Check.ofSee("heat " + heat + ";");
            Check.refused("it is so", x, x.warm(heat), 9);
            int other = 9 - heat;
            Check.due("what it was", x, x.warm(other), heat, 0);
            Check.due("what it was", x, x.warm(heat), other, 0);
            Check.due("HEAT", heat, x.many(3));
        }
        JellyCathedral x = Check.ofSee("stuff s sets 1 costs 9 stock 99;stuff t sets 1 costs 1 stock 9;");
        for (int i = 2; i <= 10; i++) {
            Check.due("99 more", x, x.buy(0, 99), 99 * i, 0);
        }
        Check.refused("1,000", x, x.buy(0, 10), 7);
        Check.refused("far above", x, x.buy(0, 99), 7);
        Check.due("STOCK stays", 990, x.stuff(0, 2));
        Check.due("999", x, x.buy(0, 9), 999, 0);
        Check.refused("1,000", x, x.buy(0, 1), 7);
        Check.due("the other one's", x, x.buy(1, 1), 10, 0);
        Check.due("nothing SPENT", 0, x.many(6));
        for (int odds = 0; odds <= 16; odds++) {
            Check.due("ODDS", x, x.rule(odds), true, 0);
            Check.due("so again", x, x.rule(odds), true, 0);
            Check.due("ODDS", odds, x.many(4));
        }
        Check.refused("17", x, x.rule(17), 5);
        Check.due("ODDS stay", 16, x.many(4));
    }

    // ---- MINUTES ahead

    private static void firmInBounds() {
        JellyCathedral x = setting(10, 20);
        int[][] sets = {{0, 20}, {1, 21}, {60, 80}, {61, 81}, {62, 81}, {300, 81}};
        for (int[] s : sets) {
            Check.due("SETS, in " + s[0], x, x.firmIn(0, s[0]), s[1], 0);
        }
        x.knock(0);
        x.warm(2);
        int[][] stands = {{0, 20}, {1, 18}, {4, 12}, {5, 10}, {6, 0}, {300, 0}};
        for (int[] s : stands) {
            Check.due("STANDS, in " + s[0], x, x.firmIn(0, s[0]), s[1], 0);
        }
        x.warm(0);
        Check.due("HEAT 0", x, x.firmIn(0, 300), 20, 0);
        x.warm(9);
        Check.due("at its HEIGHT", x, x.firmIn(0, 1), 11, 0);
        Check.due("below", x, x.firmIn(0, 2), 0, 0);
        x.empty(0);
        Check.due("VOID", x, x.firmIn(0, 300), 0, 0);
        x.pour(0, 0, 9);
        Check.due("HEAT 9 sets nothing", x, x.firmIn(0, 300), 0, 0);
        Check.due("one that SETS does not fall", x, x.firmIn(0, 0), 0, 0);
        Check.due("nothing went by", 20, x.many(5));
    }

    private static void lastsBounds() {
        int[][] want = {{10, 10, 1, 1}, {10, 11, 1, 2}, {10, 10, 9, 1}, {10, 18, 9, 1}, {10, 19, 9, 2}, {10, 20, 9, 2}, {10, 27, 9, 2},
            {10, 28, 9, 3}, {1, 81, 1, 81}, {30, 81, 1, 52}, {30, 30, 1, 1}, {1, 81, 9, 9}, {1, 1, 2, 1}, {1, 2, 2, 1}, {1, 3, 2, 2}};
        for (int[] w : want) {
            JellyCathedral sets = setting(w[0], w[1]);
            JellyCathedral x = standing(w[0], w[1]);
            sets.warm(w[2]);
            x.warm(w[2]);
            Check.due("SETS", sets, sets.lasts(0), w[3], 0);
            Check.due("STANDS", x, x.lasts(0), w[3], 0);
            if (w[3] > 1) {
                Check.due("one less, it stands", x, x.minute(w[3] - 1), 0, 0);
            }
            Check.due("it falls in the last", x, x.minute(1), 1, 0);
            x = standing(w[0], w[1]);
            x.warm(0);
            Check.refused("for ever", x, x.lasts(0), 8);
        }
        JellyCathedral x = setting(10, 9);
        Check.due("would fall at the KNOCK", x, x.lasts(0), 0, 0);
        x.warm(0);
        Check.due("would fall at the KNOCK, HEAT 0, too", x, x.lasts(0), 0, 0);
        x = setting(10, 10);
        x.warm(0);
        Check.refused("SETS, for ever", x, x.lasts(0), 8);
        x.empty(0);
        Check.refused("VOID", x, x.lasts(0), 9);
        x.pour(0, 0, 8);
        x.minute(9);
        Check.refused("eight of nine", x, x.lasts(0), 9);
        x.warm(1);
        Check.refused("eight of nine", x, x.lasts(0), 9);
        x.empty(0);
        Check.refused("VOID", x, x.lasts(0), 9);
    }

    private static void waitsBounds() {
        // 1 more firm a MINUTE, 8 less: LASTS n is had by FIRM 10 + 8 (n - 1), more than n by 10 + 8 n.
        JellyCathedral x = setting(10, 0);
        for (int n = 0; n <= 8; n++) {
            Check.due("more than " + n, x, x.waits(0, n), 10 + 8 * n, 0);
        }
        Check.refused("81 is not enough for 9", x, x.waits(0, 9), 8);
        x.minute(18);
        Check.due("none to wait", x, x.waits(0, 1), 0, 0);
        Check.due("8 to wait", x, x.waits(0, 2), 8, 0);
        x.minute(7);
        Check.due("1 to wait", x, x.waits(0, 2), 1, 0);
        x.minute(1);
        Check.due("none to wait", x, x.waits(0, 2), 0, 0);
        // At HEAT 1 it is 8 more firm a MINUTE, and LASTS as many as it is above 9.
        x = setting(10, 0);
        x.warm(1);
        Check.due("72 at most 63", x, x.waits(0, 62), 9, 0);
        Check.due("81 lasts 72", x, x.waits(0, 71), 11, 0);
        Check.refused("never 73", x, x.waits(0, 72), 8);
        x.warm(0);
        Check.due("for ever is more than 99", x, x.waits(0, 99), 2, 0);
        Check.due("9 of 10 is too soft", x, x.waits(0, 0), 2, 0);
        x.warm(9);
        Check.refused("HEAT 9 sets nothing", x, x.waits(0, 0), 8);
        x.knock(0);
        Check.refused("VOID", x, x.waits(0, 0), 9);
        x.pour(0, 0, 8);
        Check.refused("eight of nine", x, x.waits(0, 0), 9);
        x = standing(10, 20);
        Check.refused("STANDS", x, x.waits(0, 0), 9);
        x = Check.ofSee("heat 0;stuff s sets 4 costs 1;place p;mould m high 5 holds 1 at p;mould n high 4 holds 1 at p;");
        x.pour(0, 0, 1);
        x.pour(1, 0, 1);
        Check.refused("never so strong", x, x.waits(0, 0), 8);
        Check.due("just so strong", x, x.waits(1, 99), 1, 0);
    }

    private static void fallInBounds() {
        JellyCathedral x = setting(10, 20);
        Check.due("nothing STANDS", x, x.fallIn(), 0, 0);
        x.knock(0);
        for (int heat = 1; heat <= 9; heat++) {
            x.warm(heat == 8 ? 0 : heat);
            if (heat != 8) {
                Check.due("as it LASTS", x, x.fallIn(), x.lasts(0), 0);
                Check.due("as it LASTS", x, x.fallIn(), 10 / heat + 1, 0);
            } else {
                Check.refused("never, HEAT being 0", x, x.fallIn(), 8);
            }
        }
        x = standing(1, 81);
        x.warm(1);
        Check.due("the longest", x, x.fallIn(), 81, 0);
        x = new JellyCathedral();
        Check.due("of no MOULDS", x, x.fallIn(), 0, 0);
        x.warm(0);
        Check.due("of no MOULDS, HEAT 0", x, x.fallIn(), 0, 0);
        // The last of several, whichever it is.
        for (int high = 0; high < 2; high++) {
            x = Check.ofSee("heat 0;stuff s sets 9 costs 1;place p;mould m high " + (high == 0 ? 2 : 7) + " holds 1 at p;mould n high "
                + (high == 0 ? 7 : 2) + " holds 1 at p;mould o high 1 holds 2 at p;");
            x.pour(0, 0, 1);
            x.pour(1, 0, 1);
            x.pour(2, 0, 2);
            x.minute(1);
            x.knock(0);
            x.knock(1);
            x.warm(1);
            Check.due("8 of 9 to 2", x, x.fallIn(), 8, 0);
            x.minute(7);
            Check.due("1 more", x, x.fallIn(), 1, 0);
            x.minute(1);
            Check.due("nothing STANDS, one SETS", x, x.fallIn(), 0, 0);
        }
    }

    private static void aheadOfTheLastMinute() {
        JellyCathedral x = Check.ofSee("heat 8;stuff s sets 9 costs 1;place p;mould m high 10 holds 9 at p;mould n high 10 holds 9 at p;");
        for (int i = 0; i < 101; i++) {
            x.minute(99);
        }
        x.pour(0, 0, 9);
        x.pour(1, 0, 9);
        Check.refused("9,999", x, x.minute(1), 7);
        Check.due("does not matter", x, x.firmIn(0, 300), 81, 0);
        Check.due("does not matter", x, x.waits(0, 8), 74, 0);
        x.see(0);
        x = Check.ofSee("heat 0;stuff s sets 9 costs 1;place p;mould m high 1 holds 9 at p;");
        for (int i = 0; i < 100; i++) {
            x.minute(99);
        }
        x.pour(0, 0, 9);
        x.minute(99);
        x.knock(0);
        x.warm(1);
        Check.due("does not matter", x, x.lasts(0), 81, 0);
        Check.due("does not matter", x, x.fallIn(), 81, 0);
        Check.due("does not matter", x, x.firmIn(0, 80), 1, 0);
    }

    // ---- mixtures

    private static void mixBounds() {
        JellyCathedral x = Check.ofSee("stuff a sets 9 costs 7 stock 9;stuff b sets 0 costs 2 stock 8;place p;mould m high 1 holds 9 at p;"
            + "mould n high 1 holds 1 at p;");
        // Nine of b there are not.
        Check.due("0", x, x.mix(0, 0), 7 + 8 * 2, 0);
        for (int a = 1; a <= 9; a++) {
            for (int k : new int[] {9 * a - 8, 9 * a - 4, 9 * a}) {
                Check.due("k " + k, x, x.mix(0, k), 7 * a + 2 * (9 - a), 0);
                Check.due("parts of a, k " + k, x, x.mixPart(0, k, 0), a, 0);
                Check.due("parts of b, k " + k, x, x.mixPart(0, k, 1), 9 - a, 0);
            }
        }
        Check.refused("82", x, x.mix(0, 82), 5);
        Check.refused("-1", x, x.mix(0, -1), 5);
        Check.due("one part", x, x.mix(1, 9), 7, 0);
        Check.refused("one part is 9 at most", x, x.mix(1, 10), 8);
        Check.refused("one part is 9 at most", x, x.mixPart(1, 10, 0), 8);
        x.pour(0, 0, 1);
        Check.due("by eight of each, as if it was VOID", x, x.mix(0, 72), 8 * 7 + 2, 0);
        Check.refused("eight of a are 72", x, x.mix(0, 73), 8);
        x.pour(0, 0, 8);
        Check.refused("a is gone, b is too few", x, x.mix(0, 0), 8);
        x.buy(1, 1);
        Check.due("nine of b", x, x.mix(0, 0), 18, 0);
        Check.refused("of STRENGTH 0", x, x.mix(0, 1), 8);
        x.minute(9);
        x.knock(0);
        Check.due("of one that STANDS, too", x, x.mix(0, 0), 18, 0);
    }

    private static void mixOrder() {
        String three = "place p;mould m high 1 holds 4 at p;";
        JellyCathedral x = Check.ofSee("stuff a sets 1 costs 5 stock 2;stuff b sets 1 costs 5 stock 1;stuff c sets 1 costs 5 stock 1;"
            + "stuff d sets 1 costs 5 stock 9;stuff e sets 1 costs 5 stock 9;" + three);
        int[] want = {2, 1, 1, 0, 0};
        for (int s = 0; s < 5; s++) {
            Check.due("the most of the first, part " + s, x, x.mixPart(0, 4, s), want[s], 0);
        }
        x = Check.ofSee("stuff a sets 0 costs 3;stuff b sets 9 costs 3;stuff c sets 1 costs 2;" + three);
        // 12: a and b alone; with c it is cheaper, if STRENGTH lets.
        int[][] byK = {{0, 8, 0, 0, 4}, {4, 8, 0, 0, 4}, {5, 9, 0, 1, 3}, {12, 9, 0, 1, 3}, {13, 10, 0, 2, 2}, {20, 10, 0, 2, 2},
            {21, 11, 0, 3, 1}, {28, 11, 0, 3, 1}, {29, 12, 0, 4, 0}, {36, 12, 0, 4, 0}};
        for (int[] w : byK) {
            Check.due("cost for " + w[0], x, x.mix(0, w[0]), w[1], 0);
            for (int s = 0; s < 3; s++) {
                Check.due("part " + s + " for " + w[0], x, x.mixPart(0, w[0], s), w[2 + s], 0);
            }
        }
        Check.refused("37", x, x.mix(0, 37), 8);
        // As cheap, and stronger than it need be: the most of STUFF 0 is what counts.
        x = Check.ofSee("stuff a sets 9 costs 1;stuff b sets 1 costs 1;" + three);
        Check.due("four of a", x, x.mixPart(0, 1, 0), 4, 0);
        x = Check.ofSee("stuff b sets 1 costs 1;stuff a sets 9 costs 1;" + three);
        Check.due("four of b", x, x.mixPart(0, 4, 0), 4, 0);
        Check.due("three of b", x, x.mixPart(0, 5, 0), 3, 0);
        Check.due("three of b", x, x.mixPart(0, 12, 0), 3, 0);
        Check.due("two of b", x, x.mixPart(0, 13, 0), 2, 0);
    }

    private static void strongestAndFillings() {
        JellyCathedral x = Check.ofSee("stuff a sets 9 costs 1 stock 4;stuff b sets 2 costs 1 stock 4;place p;mould m high 1 holds 8 at p;"
            + "mould n high 1 holds 9 at p;mould o high 1 holds 4 at p;mould q high 1 holds 5 at p;");
        Check.due("all of both", x, x.strongest(0), 44, 0);
        Check.due("one way", x, x.fillings(0), 1, 0);
        Check.refused("one too few", x, x.strongest(1), 8);
        Check.due("no way", x, x.fillings(1), 0, 0);
        Check.due("four of a", x, x.strongest(2), 36, 0);
        Check.due("0 to 4 of a", x, x.fillings(2), 5, 0);
        Check.due("four of a and one", x, x.strongest(3), 38, 0);
        Check.due("1 to 4 of a", x, x.fillings(3), 4, 0);
        x.pour(2, 0, 4);
        Check.due("as if it was VOID, by what is left", x, x.strongest(2), 8, 0);
        Check.due("as if it was VOID, by what is left", x, x.fillings(2), 1, 0);
        Check.refused("not by what is in it", x, x.strongest(3), 8);
        x = Check.ofSee("stuff a sets 0 costs 0;place p;mould m high 1 holds 1 at p;");
        Check.due("a STRENGTH of 0", x, x.strongest(0), 0, 0);
        int[] ways = {1, 10, 55, 220, 715};
        StringBuilder text = new StringBuilder("place p;mould m high 1 holds 9 at p;");
        for (int s = 0; s < 5; s++) {
            text.append("stuff s").append((char) ('a' + s)).append(" sets ").append(s * 2).append(" costs 1;");
            x = Check.ofSee(text.toString());
            Check.due("nine parts of so many STUFFS", x, x.fillings(0), ways[s], 0);
            Check.due("the strongest", x, x.strongest(0), 9 * 2 * s, 0);
        }
        x = Check.ofSee("place p;mould m high 1 holds 1 at p;");
        Check.refused("of no STUFFS", x, x.strongest(0), 8);
        Check.due("of no STUFFS", x, x.fillings(0), 0, 0);
        Check.refused("of no STUFFS", x, x.mix(0, 0), 8);
    }

    // ---- walks

    private static void shakenBounds() {
        JellyCathedral x = Check.ofSee("place a;place b;place c;place d;place e;place f;walk a b shakes 9;walk b c shakes 9;"
            + "walk c d shakes 9;walk d e shakes 9;");
        for (int i = 0; i < 5; i++) {
            for (int k = 0; k < 5; k++) {
                Check.due("9 for each WALK, both ways", x, x.shaken(i, k), 9 * Math.abs(i - k), 0);
            }
            Check.refused("no way there", x, x.shaken(i, 5), 8);
            Check.refused("no way from there", x, x.shaken(5, i), 8);
        }
        Check.due("itself", x, x.shaken(5, 5), 0, 0);
        String more = "place a;place b;place c;walk a b shakes 4;walk b c shakes 3;";
        int[][] third = {{6, 6}, {7, 7}, {8, 7}, {0, 0}};
        for (int[] t : third) {
            Check.due("the least", t[1], Check.ofSee(more + "walk c a shakes " + t[0] + ";").shaken(0, 2));
        }
        Check.due("the least of two WALKS", 2, Check.ofSee(more + "walk b a shakes 2;walk a b shakes 3;").shaken(0, 1));
        x = Check.ofSee("place a;place b;walk a b shakes 0;");
        Check.due("a WALK of 0 is a way", x, x.shaken(0, 1), 0, 0);
    }

    private static void way(JellyCathedral x, int... want) {
        int from = want[0];
        int to = want[want.length - 1];
        for (int k = 0; k < want.length; k++) {
            Check.due("from " + from + " to " + to + ", " + k, x, x.way(from, to, k), want[k], 0);
        }
        for (int k : new int[] {-1, want.length, LEAST, MOST, 63, 64}) {
            Check.refused("from " + from + " to " + to + ", " + k, x, x.way(from, to, k), 8);
        }
    }

    private static void wayBounds() {
        JellyCathedral x = Check.ofSee("place a;place b;place c;place d;place e;place f;walk a c shakes 0;walk c e shakes 0;"
            + "walk e b shakes 0;walk b d shakes 0;walk d f shakes 0;");
        way(x, 0, 2, 4, 1, 3, 5);
        way(x, 5, 3, 1, 4, 2, 0);
        way(x, 4);
        way(x, 4, 1);
        x = Check.ofSee("place a;place b;place c;place d;walk a b shakes 2;walk b d shakes 2;walk a d shakes 4;walk a c shakes 1;"
            + "walk c d shakes 3;");
        way(x, 0, 3);
        way(x, 3, 0);
        x = Check.ofSee("place a;place b;place c;place d;walk a b shakes 2;walk b d shakes 2;walk a d shakes 5;walk a c shakes 1;"
            + "walk c d shakes 3;");
        way(x, 0, 1, 3);
        way(x, 3, 1, 0);
        x = Check.ofSee("place a;place b;place c;place d;walk a b shakes 3;walk b d shakes 2;walk a d shakes 5;walk a c shakes 1;"
            + "walk c d shakes 3;");
        way(x, 0, 2, 3);
        // The first by PLACES is looked for from where the way begins.
        x = Check.ofSee("place a;place b;place c;place d;place e;place f;walk a b shakes 1;walk b e shakes 1;walk e f shakes 1;"
            + "walk a c shakes 1;walk c d shakes 1;walk d f shakes 1;");
        way(x, 0, 1, 4, 5);
        way(x, 5, 3, 2, 0);
        // Fewer WALKS come ahead of less PLACES.
        x = Check.ofSee("place a;place b;place c;place d;place e;walk a b shakes 1;walk b c shakes 1;walk c e shakes 1;walk a d shakes 2;"
            + "walk d e shakes 1;");
        way(x, 0, 3, 4);
        // By the first PLACE of all, and by the last.
        x = Check.ofSee("place a;place b;place c;place d;place e;place f;walk b a shakes 1;walk a c shakes 2;walk d f shakes 3;"
            + "walk f e shakes 4;walk c f shakes 5;");
        way(x, 1, 0, 2);
        way(x, 2, 0, 1);
        way(x, 3, 5, 4);
        way(x, 1, 0, 2, 5, 4);
        Check.due("shaken by all of it", x, x.shaken(1, 4), 12, 0);
        x = Check.ofSee("place a;place b;");
        Check.refused("no way", x, x.way(0, 1, 0), 8);
        way(x, 1);
    }

    private static void reachBounds() {
        String see = "heat 8;stuff s sets 9 costs 1;place a;place b;place c;place d;place e;place f;walk a b shakes 3;walk a c shakes 4;"
            + "walk b d shakes 2;walk c e shakes 0;mould m high 10 holds 9 at a;";
        int[] byFirm = {1, 1, 1, 1 + 2, 1 + 2 + 4 + 16, 1 + 2 + 4 + 8 + 16, 1 + 2 + 4 + 8 + 16};
        for (int more = 0; more < byFirm.length; more++) {
            JellyCathedral x = Check.ofSee(see);
            x.pour(0, 0, 9);
            x.minute(10 + more);
            Check.refused("SETS", x, x.reach(0), 9);
            x.knock(0);
            Check.due("REACH of " + more + " more than its HEIGHT", x, x.reach(0), byFirm[more], 0);
            for (int p = 1; p < 6; p++) {
                x.mark();
                x.carry(0, p);
                boolean held = x.mould(0, 3) == 2 && x.mould(0, 2) == p;
                x.back();
                Check.due("as it is CARRIED to " + p, held, (byFirm[more] >> p & 1) == 1);
            }
        }
        JellyCathedral x = Check.ofSee(see);
        Check.refused("VOID", x, x.reach(0), 9);
        x = Check.ofSee(see.replace("at a;", "at f;"));
        x.pour(0, 0, 9);
        x.minute(81);
        x.knock(0);
        Check.due("where it is, alone", x, x.reach(0), 32, 0);
    }

    // ---- what was in it

    private static JellyCathedral twos(int... numbers) {
        JellyCathedral x = Check.ofSee("stuff a sets 0 costs 1 stock 0;stuff b sets 1 costs 1 stock 0;place p;mould m high 4 holds 9 at p;"
            + "mould n high 1 holds 1 at p;");
        x.tray(0, 3, numbers.length);
        for (int i = 0; i < numbers.length; i++) {
            x.write(0, i, numbers[i]);
        }
        return x;
    }

    private static void fitsNumbers() {
        int[] ones = new int[60];
        java.util.Arrays.fill(ones, 1);
        JellyCathedral x = twos(ones);
        Call[] calls = {(y, n) -> y.fits(0, 0, n), (y, n) -> y.fitsBy(0, 0, n, 0), (y, n) -> y.ask(0, 0, n)};
        for (Call call : calls) {
            without("above 20", x, call, 5, 21, 22, 30);
            without("below 0", x, call, 5, -1, LEAST);
            without("more than it has", x, call, 4, 31, 32, MOST);
        }
        within("up to 20", x, calls[0], 0, 0, 1, 19, 20);
        within("up to 20", x, calls[1], 0, 0, 1, 19, 20);
        for (int length = 0; length <= 42; length++) {
            x = twos(java.util.Arrays.copyOf(ones, length));
            int most = Math.min(20, length / 2);
            within("twos of " + length, x, calls[0], 0, 0, most);
            without("twos of " + length, x, calls[0], most + 1 > length / 2 ? 4 : 5, most + 1);
        }
        int[][] heats = {{0, 5}, {1, 0}, {9, 0}, {10, 5}, {-1, 5}, {MOST, 5}, {LEAST, 5}};
        int[][] minutes = {{-1, 5}, {0, 0}, {99, 0}, {100, 5}, {MOST, 5}, {LEAST, 5}};
        for (int at = 0; at < 2; at++) {
            int[] two = {1, 1, 1, 1};
            for (int[] h : heats) {
                two[2 * at] = h[0];
                x = twos(two);
                x.fits(0, 0, 2);
                Check.due("HEAT " + h[0], h[1], x.status());
                x.fits(0, 0, at);
                Check.due("the first n alone", 0, x.status());
            }
            two[2 * at] = 1;
            for (int[] m : minutes) {
                two[2 * at + 1] = m[0];
                x = twos(two);
                x.fits(0, 0, 2);
                Check.due("MINUTES " + m[0], m[1], x.status());
                x.fits(0, 0, at);
                Check.due("the first n alone", 0, x.status());
            }
        }
        x = twos(1, 1);
        for (long wide : new long[] {1L << 32 | 1, Long.MIN_VALUE | 1, Long.MAX_VALUE}) {
            x.write(0, 0, wide);
            Check.refused("a wide HEAT", x, x.fits(0, 0, 1), 5);
            x.write(0, 0, 1);
            x.write(0, 1, wide);
            Check.refused("wide MINUTES", x, x.fits(0, 0, 1), 5);
            x.write(0, 1, 1);
        }
    }

    private static void fitsBounds() {
        // STRENGTH 0 to 9, each by one way, of HEIGHT 4: by HEAT 2 4 5 fall behind 1 MINUTE, 6 7 behind 2, 8 9 behind 3.
        int[][] want = {{2, 0, 4, 0, 3}, {2, 1, 2, 4, 5}, {2, 2, 2, 6, 7}, {2, 3, 2, 8, 9}, {2, 4, 0, 0, 0}, {1, 0, 4, 0, 3},
            {1, 1, 1, 4, 4}, {1, 6, 1, 9, 9}, {1, 7, 0, 0, 0}, {9, 0, 4, 0, 3}, {9, 1, 6, 4, 9}, {9, 2, 0, 0, 0}, {5, 1, 5, 4, 8},
            {5, 2, 1, 9, 9}, {6, 1, 6, 4, 9}, {9, 99, 0, 0, 0}};
        for (int[] w : want) {
            JellyCathedral x = twos(w[0], w[1]);
            String what = "HEAT " + w[0] + ", MINUTES " + w[1];
            Check.due(what, x, x.fits(0, 0, 1), w[2], 0);
            if (w[2] > 0) {
                Check.due("least, " + what, x, x.fitsBy(0, 0, 1, 0), w[3], 0);
                Check.due("greatest, " + what, x, x.fitsBy(0, 0, 1, 1), w[4], 0);
            } else {
                Check.refused("least, " + what, x, x.fitsBy(0, 0, 1, 0), 8);
                Check.refused("greatest, " + what, x, x.fitsBy(0, 0, 1, 1), 8);
            }
        }
        JellyCathedral x = twos(2, 1, 5, 1, 1, 2, 3, 9);
        int[] byN = {10, 2, 2, 1, 0};
        for (int n = 0; n < byN.length; n++) {
            Check.due("the first " + n, x, x.fits(0, 0, n), byN[n], 0);
        }
        Check.due("5 alone", x, x.fitsBy(0, 0, 3, 0), 5, 0);
        x.pour(0, 0, 1);
        Check.due("whatever the STOCK", x, x.fits(0, 0, 0), 10, 0);
        Check.due("one part", x, x.fits(1, 0, 0), 2, 0);
        x = Check.ofSee("place p;mould m high 1 holds 1 at p;");
        x.tray(0, 0, 0);
        Check.due("of no STUFFS", x, x.fits(0, 0, 0), 0, 0);
        Check.refused("of no STUFFS", x, x.fitsBy(0, 0, 0, 0), 8);
        Check.refused("of no STUFFS", x, x.ask(0, 0, 0), 8);
        // 715 ways, of which 9 parts of one STUFF alone are 81.
        x = Check.ofSee("stuff a sets 9 costs 1;stuff b sets 0 costs 1;stuff c sets 0 costs 1;stuff d sets 0 costs 1;"
            + "stuff e sets 0 costs 1;place p;mould m high 1 holds 9 at p;");
        x.tray(0, 0, 4);
        Check.due("most of all", x, x.fits(0, 0, 0), 715, 0);
        Check.due("up to 81", x, x.fitsBy(0, 0, 0, 1), 81, 0);
        x.write(0, 0, 1);
        x.write(0, 1, 81);
        Check.due("81 of 1", x, x.fits(0, 0, 1), 1, 0);
        x.write(0, 1, 0);
        Check.due("nothing of a", x, x.fits(0, 0, 1), 220, 0);
    }

    private static void askBounds() {
        JellyCathedral x = twos(2, 3, 1, 6);
        Check.due("10 ways", x, x.ask(0, 0, 0), 1, 0);
        Check.due("two ways", x, x.ask(0, 0, 1), 1, 0);
        Check.refused("one way", x, x.ask(0, 0, 2), 8);
        x = twos(2, 4);
        Check.refused("no way", x, x.ask(0, 0, 1), 8);
        x = twos(1, 0);
        Check.due("all FALL at the KNOCK by every HEAT: the least", x, x.ask(0, 0, 1), 1, 0);
    }

    // ---- games, odds

    private static void gameBounds() {
        JellyCathedral x = Check.ofSee("stuff a sets 2 costs 1 stock 3;stuff b sets 3 costs 1 stock 1;place p;mould m high 1 holds 2 at p;"
            + "mould n high 1 holds 3 at p;");
        int[] byTurns = {0, 3, 1, 3, 1};
        for (int n = 0; n < byTurns.length; n++) {
            Check.due("turns " + n, x, x.game(0, 1, n), byTurns[n], 0);
        }
        Check.refused("itself", x, x.game(0, 0, 1), 5);
        Check.refused("itself", x, x.moveOf(1, 1, 1), 5);
        x.pour(1, 0, 1);
        Check.due("-1 is told apart by STATUS", x, x.game(0, 1, 2), 3 - 2 - 2, 0);
        x.pour(0, 0, 2);
        Check.due("a full one does nothing", x, x.game(0, 1, 1), 4 - 2, 0);
        Check.due("the other takes the last", x, x.game(0, 1, 4), 4 - 2 - 3, 0);
        x.pour(1, 1, 1);
        Check.due("no STOCK at all", x, x.game(1, 0, 4), 5 - 4, 0);
        Check.refused("nothing to pour", x, x.moveOf(1, 0, 1), 8);
        // ROOM gets less by what is POURED in the game itself.
        int[][] byRoom = {{1, 9, 0, 0, 0}, {2, 9, 0, 9, 9}, {9, 9, 0, 9, 9}};
        for (int[] b : byRoom) {
            x = Check.ofSee("stuff a sets 9 costs 1;place p;mould m high 9 holds " + b[0] + " at p;mould n high 9 holds 1 at p;");
            for (int n = 1; n <= 4; n++) {
                Check.due("ROOM " + b[0] + ", turns " + n, x, x.game(0, 1, n), b[n], 0);
            }
            Check.due("ROOM " + b[0] + ", of the second", x, x.game(1, 0, 4), b[0] == 1 ? 0 : -9, 0);
        }
        // Five STUFFS, then none of those that a SEE ahead had.
        for (int round = 0; round < 3; round++) {
            Check.see(x, "stuff a sets 1 costs 1;stuff b sets 2 costs 1;stuff c sets 3 costs 1;stuff d sets 4 costs 1;"
                + "stuff e sets 5 costs 1;place p;mould m high 9 holds 4 at p;mould n high 9 holds 4 at p;");
            Check.due("the fifth", x, x.game(0, 1, 3), 5, 0);
            Check.due("the fifth", x, x.moveOf(0, 1, 3), 4, 0);
            Check.see(x, "stuff a sets 1 costs 1;place p;mould m high 9 holds 4 at p;mould n high 9 holds 4 at p;");
            Check.due("the only one", x, x.game(0, 1, 3), 1, 0);
            Check.due("the only one", x, x.moveOf(0, 1, 3), 0, 0);
            Check.due("the only one", x, x.strongest(0), 4, 0);
            Check.due("the only one", x, x.fillings(0), 1, 0);
        }
        // One that STANDS counts, and can't be POURED into.
        x = Check.ofSee("heat 0;stuff a sets 9 costs 1;stuff b sets 2 costs 1;place p;mould m high 9 holds 1 at p;"
            + "mould n high 9 holds 1 at p;");
        x.pour(0, 0, 1);
        x.minute(1);
        x.knock(0);
        Check.due("9 less 9", x, x.game(0, 1, 2), 0, 0);
        Check.due("9 less 9", x, x.game(1, 0, 1), 0, 0);
        Check.refused("STANDS", x, x.moveOf(0, 1, 4), 8);
        x = Check.ofSee("place p;mould m high 9 holds 1 at p;mould n high 9 holds 1 at p;");
        Check.due("no STUFFS", x, x.game(0, 1, 4), 0, 0);
    }

    private static void moveBounds() {
        JellyCathedral x = Check.ofSee("stuff z sets 0 costs 1;stuff a sets 5 costs 1 stock 1;stuff b sets 5 costs 1;stuff c sets 4 costs 1;"
            + "place p;mould m high 1 holds 1 at p;mould n high 1 holds 1 at p;");
        Check.due("the first of as good ones", x, x.moveOf(0, 1, 1), 1, 0);
        x.pour(0, 1, 1);
        x.empty(0);
        Check.due("its STOCK is gone", x, x.moveOf(0, 1, 1), 2, 0);
        Check.refused("turns 0", x, x.moveOf(0, 1, 0), 5);
        x = Check.ofSee("stuff z sets 0 costs 1;place p;mould m high 1 holds 1 at p;mould n high 1 holds 1 at p;");
        Check.due("nothing comes last", x, x.moveOf(0, 1, 1), 0, 0);
        // Of one room left, the best is kept for the last turn or taken at once: it is as good, so the first.
        x = Check.ofSee("stuff a sets 0 costs 1;stuff b sets 9 costs 1 stock 1;place p;mould m high 1 holds 2 at p;"
            + "mould n high 1 holds 1 at p;");
        Check.due("else the other takes it", x, x.moveOf(0, 1, 3), 1, 0);
        Check.due("the only one is the best", x, x.game(0, 1, 3), 9, 0);
        x.pour(0, 0, 2);
        Check.refused("no ROOM", x, x.moveOf(0, 1, 3), 8);
    }

    private static void bubblesBounds() {
        JellyCathedral x = new JellyCathedral();
        for (int odds = 0; odds <= 16; odds += 8) {
            x.rule(odds);
            for (int n = 0; n <= 12; n += 3) {
                x.bubbles(n, 0);
                Check.fraction("0 or more of " + n, x, 1, 1);
                if (n < 12) {
                    x.bubbles(n, n + 1);
                    Check.fraction("more than there are of " + n, x, 0, 1);
                }
                x.bubbles(n, n);
                Check.fraction("all of " + n + " by " + odds, x, odds == 0 && n > 0 ? 0 : 1, odds == 8 ? 1L << n : 1);
            }
        }
        x.rule(1);
        x.bubbles(12, 12);
        Check.fraction("1 of 16, twelve times", x, 1, 1L << 48);
        x.bubbles(12, 11);
        Check.fraction("11 or 12 of 12", x, 181, 1L << 48);
        x.rule(15);
        x.bubbles(12, 1);
        Check.fraction("not none", x, (1L << 48) - 1, 1L << 48);
        x.bubbles(1, 1);
        Check.fraction("15 sixteenths", x, 15, 16);
        x.rule(8);
        x.bubbles(12, 6);
        Check.fraction("half and half", x, 2510 / 2, 2048);
    }

    private static void poiseBounds() {
        JellyCathedral x = standing(30, 30);
        Check.due("at its HEIGHT", x, x.poise(0), true, 0);
        Check.fraction("at its HEIGHT", x, 1, 1);
        x = standing(30, 81);
        x.poise(0);
        Check.fraction("81 by 30", x, 27, 10);
        x = standing(1, 81);
        x.poise(0);
        Check.fraction("81 by 1", x, 81, 1);
        x.empty(0);
        Check.refused("VOID", x, x.poise(0), 9);
        Check.fraction("stays", x, 81, 1);
        x = setting(1, 50);
        Check.refused("SETS", x, x.poise(0), 9);
        Check.fraction("stays", x, 0, 1);
    }
}
