import java.util.ArrayList;
import java.util.List;
import java.util.function.Consumer;
import java.util.function.Function;

/**
 * Each promise by each STATUS that stands behind it in brackets: the call is refused on one of two objects that are alike,
 * and all that can be told of the two is alike still.
 */
public final class RefusalsTest {
    private static final String SEE = "heat 2;odds 4;stuff agar sets 6 costs 5 stock 9;stuff milk sets 1 costs 1 stock 30;"
        + "place kitchen;place close;place choir;place isle;walk kitchen close shakes 3;walk close choir shakes 1;"
        + "mould ma high 3 holds 3 at kitchen;mould mb high 3 holds 3 at kitchen;mould mc high 3 holds 2 at close;"
        + "mould md high 4 holds 2 at kitchen;mould me high 12 holds 1 at isle;";
    private static final int EMPTY = 0;
    private static final int PARTLY = 1;
    private static final int FULL = 2;
    private static final int STOOD = 3;
    private static final int SOFT = 4;
    private static final int ISLE = 3;
    private static final int GONE = 3;
    private static final int LEAST = Integer.MIN_VALUE;
    private static final int MOST = Integer.MAX_VALUE;

    private static final Consumer<JellyCathedral> NOTHING = x -> { };
    private static final Consumer<JellyCathedral> NO_HEAT = x -> x.warm(0);
    // The tape of the world has a SEE of one PLACE.
    private static final Consumer<JellyCathedral> NO_FEASTS = x -> x.see(20);

    public static void main(String[] args) {
        twinsAreSeenThrough();
        trays();
        decants();
        texts();
        told();
        done();
        minutesAhead();
        mixtures();
        walks();
        whatWasInIt();
        games();
        feastsAndMarks();
        orderOfTrays();
        orderOfThings();
        orderOfFits();
        orderOfOthers();
        neverThrows();
        Check.end();
    }

    // ---- two that are alike

    private static JellyCathedral world() {
        JellyCathedral x = Check.ofSee(SEE);
        x.tray(0, 0, 4);
        x.tray(1, 1, 5);
        x.tray(2, 1, 60);
        int[] twos = {3, 1, 9, 2, 7};
        for (int i = 0; i < twos.length; i++) {
            x.write(1, i, twos[i]);
            x.write(2, 55 + i, -twos[i]);
        }
        Check.feasts(x, "pour ma milk 3;knock ma;minute 1;touch mb;any;any;");
        x.live(7);
        x.mark();
        x.pour(PARTLY, 0, 1);
        x.pour(FULL, 0, 1);
        x.pour(FULL, 1, 1);
        x.pour(STOOD, 0, 2);
        x.pour(SOFT, 1, 1);
        x.minute(2);
        x.knock(STOOD);
        x.bubbles(2, 1);
        Check.feasts(x, "any; go;");
        Check.feed(x, Check.bytes("place zz;           "));
        return x;
    }

    private static List<Object> seen(JellyCathedral x, boolean textsToo) {
        List<Object> all = new ArrayList<>();
        all.add(x.top());
        all.add(x.bottom());
        if (textsToo) {
            all.add(x.fault(0));
            all.add(x.fault(1));
        }
        seenThings(x, all);
        for (int t = 0; t < 4; t++) {
            for (int p = 0; p <= 60; p++) {
                long number = x.read(t, p);
                int status = number == -1 ? x.status() : 0;
                all.add(number);
                all.add(status);
                if (status != 0) {
                    break;
                }
            }
        }
        for (int round = 0; round < 2; round++) {
            for (int w = 0; w < 5; w++) {
                all.add(x.lived(w));
            }
            all.add(x.mean(3, 2));
            all.add(x.top());
            all.add(x.live(5));
        }
        if (textsToo) {
            all.add(x.feed(0x706c6163, 0x65207979, 0x3b202020, 0x20202020, 0x20202020));
            all.add(x.feasts(1));
            all.add(x.see(40));
            all.add(x.many(1));
        }
        for (int left = 4; left > 0; left--) {
            all.add(x.back());
            all.add(x.many(5));
            all.add(x.many(10));
            all.add(x.live(9));
        }
        return all;
    }

    private static void seenThings(JellyCathedral x, List<Object> all) {
        for (int w = 0; w <= 10; w++) {
            all.add(x.many(w));
        }
        for (int s = 0; s < x.many(0); s++) {
            for (int w = 0; w < 3; w++) {
                all.add(x.stuff(s, w));
            }
        }
        for (int m = 0; m < x.many(2); m++) {
            for (int w = 0; w < 8; w++) {
                all.add(x.mould(m, w));
            }
            for (int s = 0; s < x.many(0); s++) {
                all.add(x.part(m, s));
            }
        }
        for (int p = 0; p < x.many(1); p++) {
            all.add(x.shaken(0, p));
        }
    }

    private static void refused(String promise, int status, Consumer<JellyCathedral> ahead,
        Function<JellyCathedral, Object> call) {
        JellyCathedral one = world();
        JellyCathedral twin = world();
        ahead.accept(one);
        ahead.accept(twin);
        String what = promise + " by " + status;
        Check.refused(what, one, call.apply(one), status);
        Check.due(what + " again", status, one.status());
        alike(what, seen(twin, true), seen(one, true));
    }

    private static void refused(String promise, int status, Function<JellyCathedral, Object> call) {
        refused(promise, status, NOTHING, call);
    }

    private static void alike(String what, List<Object> want, List<Object> got) {
        boolean same = want.equals(got);
        Check.due(what + " changes nothing", true, same);
        for (int i = 0; !same && i < Math.min(want.size(), got.size()); i++) {
            if (!want.get(i).equals(got.get(i))) {
                System.out.println("  the first that is unlike, " + i + ": " + got.get(i) + ", due is " + want.get(i));
                return;
            }
        }
    }

    /** What is seen of the two is of worth only if every call that is done can be seen in it. */
    private static void twinsAreSeenThrough() {
        List<Object> still = seen(world(), true);
        Check.due("two that are alike are seen alike", true, still.equals(seen(world(), true)));
        List<Consumer<JellyCathedral>> deeds = List.of(x -> x.tray(3, 0, 0), x -> x.tray(0, 1, 5), x -> x.write(2, 59, 1),
            x -> x.decant(1, 0, 2, 0, 1), x -> x.see(20), x -> x.feasts(0), x -> x.copyFirm(1),
            x -> x.pour(EMPTY, 1, 1), x -> x.empty(PARTLY), x -> x.knock(FULL), x -> x.touch(STOOD), x -> x.carry(EMPTY, 1),
            x -> x.minute(1), x -> x.warm(3), x -> x.buy(0, 1), x -> x.rule(5), x -> x.bubbles(2, 2), x -> x.poise(STOOD),
            x -> x.live(1), x -> x.mean(1, 1), x -> x.mark(), x -> x.back());
        for (int i = 0; i < deeds.size(); i++) {
            JellyCathedral x = world();
            deeds.get(i).accept(x);
            Check.due("deed " + i + " is done", 0, x.status());
            Check.due("deed " + i + " is seen", false, still.equals(seen(x, true)));
        }
        JellyCathedral fed = world();
        fed.feed(0x20202020, 0x20202020, 0x20202020, 0x20202020, 0x20202020);
        Check.due("what is fed is seen", false, still.equals(seen(fed, true)));
    }

    // ---- a promise's STATUSES, one by one

    private static void trays() {
        for (int t : new int[] {-1, 4, LEAST, MOST}) {
            refused("tray", 1, x -> x.tray(t, 0, 1));
            refused("sort", 1, x -> x.tray(0, t, 1));
            refused("write", 1, x -> x.write(t, 0, 1));
            refused("read", 1, x -> x.read(t, 0));
        }
        refused("tray", 5, x -> x.tray(0, 0, 61));
        refused("tray", 5, x -> x.tray(GONE, 0, MOST));
        refused("tray", 6, x -> x.tray(0, 0, -1));
        refused("tray", 6, x -> x.tray(GONE, 0, LEAST));
        refused("write", 3, x -> x.write(GONE, 0, 1));
        refused("read", 3, x -> x.read(GONE, 0));
        for (int p : new int[] {-1, 4, LEAST, MOST}) {
            refused("write", 4, x -> x.write(0, p, 1));
            refused("read", 4, x -> x.read(0, p));
        }
    }

    private static void decants() {
        for (int t : new int[] {-1, 4, LEAST, MOST}) {
            refused("decant from", 1, x -> x.decant(t, 0, 1, 0, 1));
            refused("decant to", 1, x -> x.decant(1, 0, t, 0, 1));
        }
        refused("decant from", 3, x -> x.decant(GONE, 0, 1, 0, 0));
        refused("decant to", 3, x -> x.decant(1, 0, GONE, 0, 0));
        refused("decant", 11, x -> x.decant(0, 0, 1, 0, 1));
        refused("decant", 11, x -> x.decant(1, 0, 0, 0, 0));
        refused("decant", 6, x -> x.decant(1, 0, 2, 0, -1));
        refused("decant", 6, x -> x.decant(1, 0, 2, 0, LEAST));
        int[][] bad = {{-1, 0, 1}, {5, 0, 1}, {4, 0, 2}, {0, -1, 1}, {0, 60, 1}, {0, 56, 5}, {0, 0, 6}, {LEAST, 0, 1}, {0, MOST, 1},
            {MOST, MOST, MOST}, {6, 0, 0}, {0, 61, 0}, {-1, 0, 0}, {0, -1, 0}};
        for (int[] b : bad) {
            refused("decant", 4, x -> x.decant(1, b[0], 2, b[1], b[2]));
        }
    }

    private static void texts() {
        for (int n : new int[] {-1, 21, LEAST, MOST}) {
            refused("see", 5, x -> x.see(n));
            refused("feasts", 5, x -> x.feasts(n));
        }
        refused("feasts above 300", 5, x -> Check.feed(x, Check.bytes(" ".repeat(300))), x -> x.feasts(301));
        List<String> bad = List.of("heat 9;odds 9;go", "place a;place a;", "@", "heat 10;");
        for (String text : bad) {
            JellyCathedral one = world();
            JellyCathedral twin = world();
            one.feasts(20);
            Check.refused("see of " + text, one, Check.see(one, text), 10);
            Check.refused("the tape is empty", one, one.see(1), 5);
            alike("see of " + text, seen(twin, false), seen(one, false));
            one = world();
            twin = world();
            one.feasts(20);
            Check.refused("feasts of " + text, one, Check.feasts(one, "minute 1;" + text), 10);
            Check.refused("the tape is empty", one, one.feasts(1), 5);
            alike("feasts of " + text, seen(twin, false), seen(one, false));
        }
        feedAboveAll();
    }

    private static void feedAboveAll() {
        JellyCathedral one = world();
        JellyCathedral twin = world();
        for (int i = 0; i < 44; i++) {
            one.feed(0x20202020, 0x20202020, 0x20202020, 0x20202020, 0x20202020);
            twin.feed(0x20202020, 0x20202020, 0x20202020, 0x20202020, 0x20202020);
        }
        one.many(11);
        Check.due("feed above 900", -1, one.feed(MOST, MOST, MOST, MOST, MOST));
        Check.due("has no STATUS", 5, one.status());
        Check.due("the tape stays", twin.see(900), one.see(900));
        alike("feed above 900", seen(twin, true), seen(one, true));
    }

    private static void told() {
        for (int n : new int[] {-1, 11, LEAST, MOST}) {
            refused("many", 5, x -> x.many(n));
            refused("stuff", 2, x -> x.stuff(n, 0));
            refused("mould", 2, x -> x.mould(n, 0));
            refused("part", 2, x -> x.part(n, 0));
            refused("part", 2, x -> x.part(0, n));
            refused("copyFirm", 1, x -> x.copyFirm(n));
        }
        refused("stuff", 2, x -> x.stuff(2, 0));
        refused("mould", 2, x -> x.mould(5, 0));
        refused("part", 2, x -> x.part(5, 0));
        refused("part", 2, x -> x.part(0, 2));
        refused("stuff what", 5, x -> x.stuff(0, -1));
        refused("stuff what", 5, x -> x.stuff(1, 3));
        refused("mould what", 5, x -> x.mould(0, -1));
        refused("mould what", 5, x -> x.mould(4, 8));
        refused("copyFirm", 1, x -> x.copyFirm(4));
        refused("copyFirm", 3, x -> x.copyFirm(GONE));
        refused("copyFirm, four for five", 4, x -> x.copyFirm(0));
    }

    private static void done() {
        for (int n : new int[] {-1, 5, LEAST, MOST}) {
            refused("pour", 2, x -> x.pour(n, 0, 1));
            refused("empty", 2, x -> x.empty(n));
            refused("knock", 2, x -> x.knock(n));
            refused("touch", 2, x -> x.touch(n));
            refused("carry", 2, x -> x.carry(n, 1));
            refused("carry to", 2, x -> x.carry(0, n < 0 ? n : n - 1));
        }
        for (int n : new int[] {-1, 2, LEAST, MOST}) {
            refused("pour of", 2, x -> x.pour(0, n, 1));
            refused("buy", 2, x -> x.buy(n, 1));
        }
        for (int n : new int[] {0, 10, -1, LEAST, MOST}) {
            refused("pour", 5, x -> x.pour(EMPTY, 1, n));
        }
        refused("pour into what STANDS", 9, x -> x.pour(STOOD, 1, 1));
        refused("pour without STOCK", 9, x -> x.pour(EMPTY, 0, 6));
        refused("pour without ROOM", 9, x -> x.pour(EMPTY, 1, 4));
        refused("pour without ROOM", 9, x -> x.pour(PARTLY, 1, 3));
        refused("pour without ROOM", 9, x -> x.pour(FULL, 1, 1));
        refused("empty of what is VOID", 9, x -> x.empty(EMPTY));
        refused("knock of what is VOID", 9, x -> x.knock(EMPTY));
        refused("knock of what is not full", 9, x -> x.knock(PARTLY));
        refused("knock of what STANDS", 9, x -> x.knock(STOOD));
        refused("touch of what is VOID", 9, x -> x.touch(EMPTY));
        refused("touch of what SETS", 9, x -> x.touch(FULL));
        refused("carry without a way", 8, x -> x.carry(STOOD, ISLE));
        refused("carry without a way", 8, x -> x.carry(SOFT, 0));
        refused("carry to where it is", 9, x -> x.carry(STOOD, 0));
        refused("carry to where it is", 9, x -> x.carry(SOFT, ISLE));
        for (int n : new int[] {0, 100, -1, LEAST, MOST}) {
            refused("minute", 5, x -> x.minute(n));
            refused("buy", 5, x -> x.buy(0, n));
        }
        refused("minute", 7, RefusalsTest::toTheLastMinute, x -> x.minute(1));
        refused("minute", 7, RefusalsTest::toTheLastMinute, x -> x.minute(99));
        for (int n : new int[] {-1, 10, LEAST, MOST}) {
            refused("warm", 5, x -> x.warm(n));
            refused("rule", 5, x -> x.rule(n < 0 ? n : n == 10 ? 17 : n));
        }
        refused("warm", 9, x -> x.warm(2));
        refused("buy", 7, RefusalsTest::toTheMostStock, x -> x.buy(1, 1));
        refused("buy", 7, RefusalsTest::toTheMostStock, x -> x.buy(1, 99));
    }

    private static void toTheLastMinute(JellyCathedral x) {
        for (int i = 0; i < 100; i++) {
            x.minute(99);
        }
        x.minute(9999 - x.many(5));
    }

    private static void toTheMostStock(JellyCathedral x) {
        for (int i = 0; i < 9; i++) {
            x.buy(1, 99);
        }
        x.buy(1, 90);
        x.buy(1, 999 - x.stuff(1, 2));
    }

    private static void minutesAhead() {
        for (int n : new int[] {-1, 5, LEAST, MOST}) {
            refused("firmIn", 2, x -> x.firmIn(n, 1));
            refused("lasts", 2, x -> x.lasts(n));
            refused("waits", 2, x -> x.waits(n, 1));
        }
        for (int n : new int[] {-1, 301, LEAST, MOST}) {
            refused("firmIn", 5, x -> x.firmIn(STOOD, n));
        }
        for (int n : new int[] {-1, 100, LEAST, MOST}) {
            refused("waits", 5, x -> x.waits(FULL, n));
        }
        refused("lasts for ever", 8, NO_HEAT, x -> x.lasts(STOOD));
        refused("lasts for ever", 8, NO_HEAT, x -> x.lasts(FULL));
        refused("lasts of what is VOID", 9, x -> x.lasts(EMPTY));
        refused("lasts of what is not full", 9, x -> x.lasts(PARTLY));
        refused("waits, never so strong", 8, x -> x.waits(SOFT, 0));
        refused("waits, never so strong", 8, x -> x.waits(FULL, 99));
        refused("waits of what is VOID", 9, x -> x.waits(EMPTY, 0));
        refused("waits of what is not full", 9, x -> x.waits(PARTLY, 0));
        refused("waits of what STANDS", 9, x -> x.waits(STOOD, 0));
        refused("fallIn", 8, NO_HEAT, x -> x.fallIn());
    }

    private static void mixtures() {
        for (int n : new int[] {-1, 5, LEAST, MOST}) {
            refused("mix", 2, x -> x.mix(n, 1));
            refused("mixPart", 2, x -> x.mixPart(n, 1, 0));
            refused("strongest", 2, x -> x.strongest(n));
            refused("fillings", 2, x -> x.fillings(n));
        }
        for (int n : new int[] {-1, 2, LEAST, MOST}) {
            refused("mixPart of", 2, x -> x.mixPart(0, 1, n));
        }
        for (int n : new int[] {-1, 82, LEAST, MOST}) {
            refused("mix", 5, x -> x.mix(0, n));
            refused("mixPart", 5, x -> x.mixPart(0, n, 0));
        }
        refused("mix", 8, x -> x.mix(0, 19));
        refused("mixPart", 8, x -> x.mixPart(0, 19, 0));
        Consumer<JellyCathedral> tooFew = x -> Check.see(x, "stuff s sets 1 costs 1 stock 2;place p;mould m high 1 holds 3 at p;");
        Consumer<JellyCathedral> onEmptyTape = x -> {
            x.see(20);
            tooFew.accept(x);
        };
        refused("mix", 8, onEmptyTape, x -> x.mix(0, 0));
        refused("strongest", 8, onEmptyTape, x -> x.strongest(0));
    }

    private static void walks() {
        for (int n : new int[] {-1, 4, LEAST, MOST}) {
            refused("shaken", 2, x -> x.shaken(n, 0));
            refused("shaken", 2, x -> x.shaken(0, n));
            refused("way", 2, x -> x.way(n, 0, 0));
            refused("way", 2, x -> x.way(0, n, 0));
            refused("reach", 2, x -> x.reach(n < 0 ? n : n == 4 ? 5 : n));
        }
        refused("shaken", 8, x -> x.shaken(0, ISLE));
        refused("shaken", 8, x -> x.shaken(ISLE, 2));
        refused("way, none", 8, x -> x.way(0, ISLE, 0));
        refused("way, none", 8, x -> x.way(ISLE, 0, 0));
        for (int k : new int[] {-1, 3, LEAST, MOST}) {
            refused("way, no such PLACE", 8, x -> x.way(0, 2, k));
        }
        refused("way, no such PLACE", 8, x -> x.way(1, 1, 1));
        refused("reach of what is VOID", 9, x -> x.reach(EMPTY));
        refused("reach of what SETS", 9, x -> x.reach(FULL));
    }

    private static void whatWasInIt() {
        fitsLike("fits", (x, a) -> x.fits(a[0], a[1], a[2]));
        fitsLike("fitsBy", (x, a) -> x.fitsBy(a[0], a[1], a[2], 0));
        fitsLike("ask", (x, a) -> x.ask(a[0], a[1], a[2]));
        for (int n : new int[] {-1, 2, LEAST, MOST}) {
            refused("fitsBy what", 5, x -> x.fitsBy(FULL, 1, 1, n));
        }
        Consumer<JellyCathedral> noWay = x -> x.write(1, 1, 99);
        refused("fitsBy, none", 8, noWay, x -> x.fitsBy(FULL, 1, 1, 0));
        refused("fitsBy, none", 8, noWay, x -> x.fitsBy(FULL, 1, 1, 1));
        refused("ask, none", 8, noWay, x -> x.ask(FULL, 1, 1));
        // Of ROOM 2 and HEIGHT 3 there are STRENGTHS 12, 7 and 2; by HEAT 3 12 falls behind 4 MINUTES.
        Consumer<JellyCathedral> oneWay = x -> x.write(1, 1, 4);
        Check.due("one way", 1, afterOneWay());
        refused("ask, one way", 8, oneWay, x -> x.ask(FULL, 1, 1));
    }

    private static int afterOneWay() {
        JellyCathedral x = world();
        x.write(1, 1, 4);
        return x.fits(FULL, 1, 1);
    }

    private interface ByThree {
        Object on(JellyCathedral x, int[] args);
    }

    private static void fitsLike(String name, ByThree call) {
        for (int n : new int[] {-1, 4, LEAST, MOST}) {
            refused(name, 1, x -> call.on(x, new int[] {FULL, n, 0}));
            refused(name, 2, x -> call.on(x, new int[] {n == 4 ? 5 : n, 1, 0}));
        }
        refused(name, 3, x -> call.on(x, new int[] {FULL, GONE, 0}));
        refused(name, 4, x -> call.on(x, new int[] {FULL, 1, 3}));
        refused(name, 4, x -> call.on(x, new int[] {FULL, 2, 31}));
        refused(name, 4, x -> call.on(x, new int[] {FULL, 1, MOST}));
        refused(name, 5, x -> call.on(x, new int[] {FULL, 1, -1}));
        refused(name, 5, x -> call.on(x, new int[] {FULL, 1, LEAST}));
        refused(name, 5, x -> call.on(x, new int[] {FULL, 2, 21}));
        int[][] bad = {{0, 0}, {0, 10}, {0, -1}, {1, -1}, {1, 100}, {2, 0}, {2, 10}, {3, -1}, {3, 100}};
        for (int[] b : bad) {
            refused(name, 5, x -> x.write(1, b[0], b[1]), x -> call.on(x, new int[] {FULL, 1, 2}));
        }
    }

    private static void games() {
        for (int n : new int[] {-1, 5, LEAST, MOST}) {
            refused("game", 2, x -> x.game(n, 0, 1));
            refused("game", 2, x -> x.game(0, n, 1));
            refused("moveOf", 2, x -> x.moveOf(n, 0, 1));
            refused("moveOf", 2, x -> x.moveOf(0, n, 1));
            refused("game turns", 5, x -> x.game(0, 1, n));
            refused("moveOf turns", 5, x -> x.moveOf(0, 1, n));
            refused("poise", 2, x -> x.poise(n));
        }
        refused("game of itself", 5, x -> x.game(1, 1, 1));
        refused("moveOf of itself", 5, x -> x.moveOf(1, 1, 1));
        refused("moveOf turns 0", 5, x -> x.moveOf(0, 1, 0));
        refused("moveOf, nothing", 8, x -> x.moveOf(FULL, 1, 3));
        refused("moveOf, nothing", 8, x -> x.moveOf(STOOD, 1, 3));
        for (int n : new int[] {-1, 13, LEAST, MOST}) {
            refused("bubbles", 5, x -> x.bubbles(n, 1));
            refused("bubbles", 5, x -> x.bubbles(1, n));
        }
        refused("poise of what is VOID", 9, x -> x.poise(EMPTY));
        refused("poise of what SETS", 9, x -> x.poise(FULL));
    }

    private static void feastsAndMarks() {
        for (int n : new int[] {-1, 10000, LEAST, MOST}) {
            refused("live", 5, x -> x.live(n));
            refused("mean", 5, x -> x.mean(n, 1));
        }
        refused("live", 8, NO_FEASTS, x -> x.live(0));
        refused("mean", 8, NO_FEASTS, x -> x.mean(0, 1));
        for (int n : new int[] {-1, 5, LEAST, MOST}) {
            refused("lived", 5, x -> x.lived(n));
        }
        for (int n : new int[] {0, 21, -1, LEAST, MOST}) {
            refused("mean of so many", 5, x -> x.mean(0, n));
        }
        refused("mean, the last above 9,999", 5, x -> x.mean(9999, 2));
        refused("mean, the last above 9,999", 5, x -> x.mean(9981, 20));
        JellyCathedral fresh = Check.ofSee(SEE);
        JellyCathedral twin = Check.ofSee(SEE);
        for (int w = 0; w < 5; w++) {
            Check.refused("lived", fresh, fresh.lived(w), 8);
        }
        alike("lived", seen(twin, true), seen(fresh, true));
        Consumer<JellyCathedral> three = x -> {
            x.mark();
            x.minute(1);
            x.mark();
            x.minute(1);
        };
        refused("mark", 7, three, x -> x.mark());
        refused("back", 8, x -> x.back(), x -> x.back());
    }

    // ---- the first that holds, of several

    private static void first(String what, int status, Function<JellyCathedral, Object> call) {
        JellyCathedral x = world();
        Check.refused("the first that holds, " + what, x, call.apply(x), status);
    }

    private static void orderOfTrays() {
        first("tray: 1, 5", 1, x -> x.tray(4, 0, 61));
        first("tray: 1, 6", 1, x -> x.tray(4, 0, -1));
        first("sort: 1, 5", 1, x -> x.tray(0, 4, 61));
        first("sort: 1, 6", 1, x -> x.tray(0, -1, -1));
        first("write: 3, 4", 3, x -> x.write(GONE, -1, 1));
        first("read: 3, 4", 3, x -> x.read(GONE, 60));
        first("copyFirm: 3, 4", 3, x -> x.copyFirm(GONE));
        first("decant: 1, 3", 1, x -> x.decant(GONE, 0, 4, 0, 1));
        first("decant: 1, 3", 1, x -> x.decant(4, 0, GONE, 0, 1));
        first("decant: 1, 6", 1, x -> x.decant(0, 0, 4, 0, -1));
        first("decant: 3, 6", 3, x -> x.decant(GONE, 0, 0, 0, -1));
        first("decant: 3, 4", 3, x -> x.decant(0, -1, GONE, 0, 1));
        first("decant: 3, of itself", 3, x -> x.decant(GONE, 0, GONE, 0, 0));
        first("decant: 11, 6", 11, x -> x.decant(0, 0, 1, 0, -1));
        first("decant: 11, 4", 11, x -> x.decant(0, 9, 1, 9, 9));
        first("decant: 6, 4", 6, x -> x.decant(1, -1, 2, 99, -1));
    }

    private static void orderOfThings() {
        first("stuff: 2, 5", 2, x -> x.stuff(2, 3));
        first("mould: 2, 5", 2, x -> x.mould(5, 8));
        first("pour: 2, 5", 2, x -> x.pour(5, 0, 0));
        first("pour: 2, 5", 2, x -> x.pour(0, 2, 0));
        first("pour: 5, 9", 5, x -> x.pour(STOOD, 0, 10));
        first("pour: 2, 9", 2, x -> x.pour(STOOD, 2, 1));
        first("carry: 2, 9", 2, x -> x.carry(5, 4));
        first("minute: 5, 7", 5, x -> {
            toTheLastMinute(x);
            return x.minute(100);
        });
        first("buy: 2, 5", 2, x -> x.buy(2, 0));
        first("buy: 5, 7", 5, x -> {
            toTheMostStock(x);
            return x.buy(1, 100);
        });
        first("firmIn: 2, 5", 2, x -> x.firmIn(5, 301));
        first("waits: 2, 5", 2, x -> x.waits(5, 100));
        first("waits: 5, 9", 5, x -> x.waits(STOOD, 100));
        first("waits: 5, 8", 5, x -> x.waits(SOFT, 100));
        first("mix: 2, 5", 2, x -> x.mix(5, 82));
        first("mixPart: 2, 5", 2, x -> x.mixPart(5, 82, 0));
        first("mixPart: 2, 5", 2, x -> x.mixPart(0, 82, 2));
        first("mixPart: 2, 8", 2, x -> x.mixPart(0, 81, 2));
        first("way: 2, 8", 2, x -> x.way(4, 0, -1));
        first("way: 2, 8", 2, x -> x.way(0, 4, 9));
        first("game: 2, 5", 2, x -> x.game(5, 5, 5));
        first("game: 2, 5", 2, x -> x.game(0, 5, 5));
        first("moveOf: 2, 5", 2, x -> x.moveOf(5, 5, 0));
        first("moveOf: 5, 8", 5, x -> x.moveOf(FULL, STOOD, 0));
        first("moveOf: 5, 8", 5, x -> x.moveOf(FULL, FULL, 1));
    }

    private static void orderOfFits() {
        List<ByThree> calls = List.of((x, a) -> x.fits(a[0], a[1], a[2]), (x, a) -> x.fitsBy(a[0], a[1], a[2], 2),
            (x, a) -> x.ask(a[0], a[1], a[2]));
        for (ByThree call : calls) {
            first("fits: 1, 2", 1, x -> call.on(x, new int[] {5, 4, 0}));
            first("fits: 1, 5", 1, x -> call.on(x, new int[] {0, 4, -1}));
            first("fits: 2, 3", 2, x -> call.on(x, new int[] {5, GONE, 0}));
            first("fits: 2, 4", 2, x -> call.on(x, new int[] {5, 1, 3}));
            first("fits: 2, 5", 2, x -> call.on(x, new int[] {5, 1, -1}));
            first("fits: 3, 4", 3, x -> call.on(x, new int[] {0, GONE, 1}));
            first("fits: 3, 5", 3, x -> call.on(x, new int[] {0, GONE, -1}));
            first("fits: 4, 5 above 20", 4, x -> call.on(x, new int[] {0, 1, 21}));
            first("fits: 4, 5 in the TRAY", 4, x -> {
                x.write(1, 0, 0);
                return call.on(x, new int[] {0, 1, 3});
            });
        }
        first("fitsBy: 5, 8", 5, x -> {
            x.write(1, 1, 99);
            return x.fitsBy(0, 1, 1, 2);
        });
        first("fitsBy: 4, 5", 4, x -> x.fitsBy(0, 1, 3, 2));
        first("fits: 5 in the TRAY, 8", 5, x -> {
            x.write(1, 1, 99);
            x.write(1, 2, 0);
            return x.ask(0, 1, 2);
        });
    }

    private static void orderOfOthers() {
        first("live: 5, 8", 5, x -> {
            x.see(20);
            return x.live(-1);
        });
        first("mean: 5, 8", 5, x -> {
            x.see(20);
            return x.mean(0, 0);
        });
        JellyCathedral fresh = new JellyCathedral();
        Check.refused("lived: 5, 8", fresh, fresh.lived(5), 5);
        Check.refused("lived: 8", fresh, fresh.lived(4), 8);
        // 0 is told by the next call that is done.
        JellyCathedral x = world();
        x.many(11);
        Check.due("5", 5, x.status());
        x.fault(9);
        x.top();
        x.bottom();
        x.feed(0, 0, 0, 0, 0);
        Check.due("by none of these", 5, x.status());
        x.many(0);
        Check.due("0 else", 0, x.status());
    }

    // ---- any arguments in any state, and after more calls than an object is used for

    private static void neverThrows() {
        int[] odd = {LEAST, -1, 0, 1, 2, 4, 5, 60, MOST};
        for (int state = 0; state < 2; state++) {
            for (int a : odd) {
                JellyCathedral x = state == 0 ? new JellyCathedral() : world();
                byOne(x, a);
                for (int b : odd) {
                    byTwo(x, a, b);
                    for (int c : odd) {
                        byThree(x, a, b, c);
                        x.feed(a, b, c, a, b);
                        x.decant(a, b, c, a, b);
                        x.decant(a, b, a, c, c);
                        x.fitsBy(a, b, c, a);
                    }
                }
                x.feasts(a);
                x.see(a);
                Check.due("none has thrown", true, x.bottom() > 0);
            }
        }
    }

    private static void byOne(JellyCathedral x, int a) {
        x.fault(a);
        x.many(a);
        x.copyFirm(a);
        x.lasts(a);
        x.reach(a);
        x.poise(a);
        x.strongest(a);
        x.fillings(a);
        x.fallIn();
        x.minute(a);
        x.warm(a);
        x.rule(a);
        x.lived(a);
        x.live(a);
        x.touch(a);
        x.mark();
        x.knock(a);
        x.empty(a);
        x.back();
    }

    private static void byTwo(JellyCathedral x, int a, int b) {
        x.write(a, b, b);
        x.read(a, b);
        x.stuff(a, b);
        x.mould(a, b);
        x.part(a, b);
        x.carry(a, b);
        x.buy(a, b);
        x.firmIn(a, b);
        x.waits(a, b);
        x.mix(a, b);
        x.shaken(a, b);
        x.bubbles(a, b);
        x.mean(a, b);
    }

    private static void byThree(JellyCathedral x, int a, int b, int c) {
        x.tray(a, b, c);
        x.pour(a, b, c);
        x.mixPart(a, b, c);
        x.way(a, b, c);
        x.fits(a, b, c);
        x.ask(a, b, c);
        x.game(a, b, c);
        x.moveOf(a, b, c);
    }
}
