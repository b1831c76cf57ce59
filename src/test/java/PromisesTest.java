/** Each promise of the document, by answers reckoned by hand from its words. */
public final class PromisesTest {
    public static void main(String[] args) {
        newObject();
        statusAndFraction();
        trays();
        decanting();
        feeding();
        seeTaken();
        seeFaults();
        seeLimits();
        feastsTaken();
        feastsFaults();
        faultTold();
        many();
        stuffsAndMoulds();
        copyFirm();
        pourAndEmpty();
        knockAndTouch();
        carry();
        minutes();
        warmBuyRule();
        firmIn();
        lasts();
        waits();
        fallIn();
        mixtures();
        walks();
        reach();
        fits();
        ask();
        games();
        bubbles();
        poise();
        live();
        liveMissed();
        liveTests();
        liveLimit();
        draws();
        mean();
        marks();
        Check.end();
    }

    private static void newObject() {
        JellyCathedral x = new JellyCathedral();
        Check.due("new status", 0, x.status());
        Check.fraction("new", x, 0, 1);
        Check.due("new fault 0", -1, x.fault(0));
        Check.due("new fault 1", -1, x.fault(1));
        int[] want = {0, 0, 0, 3, 2, 0, 0, 0, 0, 0, 0};
        for (int w = 0; w < want.length; w++) {
            Check.due("new many " + w, x, x.many(w), want[w], 0);
        }
        for (int t = 0; t < 4; t++) {
            Check.due("new tray", x, x.read(t, 0), -1, 3);
        }
        Check.due("new live", x, x.live(0), -1, 8);
        Check.due("new lived", x, x.lived(0), -1, 8);
        Check.due("new mean", x, x.mean(0, 1), false, 8);
        Check.due("new back", x, x.back(), -1, 8);
        Check.due("new tape", x, x.see(1), -1, 5);
        Check.due("new tape", x, x.see(0), 0, 0);
        Check.due("NONE", -1, JellyCathedral.NONE);
    }

    private static void statusAndFraction() {
        JellyCathedral x = Check.ofSee(Check.SEE);
        Check.due("many", x, x.many(99), -1, 5);
        x.fault(0);
        x.feed(0, 0, 0, 0, 0);
        x.top();
        x.bottom();
        Check.due("status of calls without one", 5, x.status());
        Check.due("bubbles", x, x.bubbles(2, 1), true, 0);
        Check.fraction("bubbles", x, 7, 16);
        Check.due("bubbles", x, x.bubbles(13, 1), false, 5);
        Check.due("poise", x, x.poise(0), false, 9);
        Check.fraction("a refused one stays", x, 7, 16);
        x.mark();
        x.bubbles(1, 1);
        x.back();
        Check.fraction("the fraction is not taken back", x, 1, 4);
    }

    private static void trays() {
        JellyCathedral x = new JellyCathedral();
        Check.due("tray -1", x, x.tray(-1, 0, 1), false, 1);
        Check.due("tray 4", x, x.tray(4, 0, 1), false, 1);
        Check.due("sort -1", x, x.tray(0, -1, 1), false, 1);
        Check.due("sort 4", x, x.tray(0, 4, 99), false, 1);
        Check.due("61", x, x.tray(0, 0, 61), false, 5);
        Check.due("-1", x, x.tray(0, 0, -1), false, 6);
        Check.due("least", x, x.tray(0, 0, Integer.MIN_VALUE), false, 6);
        Check.due("still missing", x, x.write(0, 0, 1), false, 3);
        Check.due("write -1", x, x.write(-1, 0, 1), false, 1);
        Check.due("read 4", x, x.read(4, 0), -1, 1);
        long v = 0x123456789abcdef8L;
        long[] cut = {(byte) v, (short) v, (int) v, v};
        for (int sort = 0; sort < 4; sort++) {
            Check.due("tray", x, x.tray(sort, sort, 60), true, 0);
            Check.due("write", x, x.write(sort, 59, v), true, 0);
            Check.due("read", x, x.read(sort, 59), cut[sort], 0);
            Check.due("write", x, x.write(sort, 0, -1), true, 0);
            Check.due("read", x, x.read(sort, 0), -1, 0);
            Check.due("read", x, x.read(sort, 1), 0, 0);
            Check.due("write 60", x, x.write(sort, 60, 1), false, 4);
            Check.due("write -1", x, x.write(sort, -1, 1), false, 4);
            Check.due("read 60", x, x.read(sort, 60), -1, 4);
            Check.due("read -1", x, x.read(sort, -1), -1, 4);
        }
        x.write(0, 1, 128);
        Check.due("128 of 8 bits", x, x.read(0, 1), -128, 0);
        x.write(1, 1, 32768);
        Check.due("32768 of 16 bits", x, x.read(1, 1), -32768, 0);
        x.write(2, 1, 1L << 31);
        Check.due("2^31 of 32 bits", x, x.read(2, 1), -(1L << 31), 0);
        Check.due("tray again", x, x.tray(0, 2, 2), true, 0);
        Check.due("all 0", x, x.read(0, 1), 0, 0);
        Check.due("shorter", x, x.read(0, 2), -1, 4);
        Check.due("none", x, x.tray(0, 2, 0), true, 0);
        Check.due("none", x, x.read(0, 0), -1, 4);
    }

    private static void decanting() {
        JellyCathedral x = new JellyCathedral();
        x.tray(0, 1, 5);
        x.tray(1, 1, 3);
        x.tray(2, 2, 3);
        for (int i = 0; i < 5; i++) {
            x.write(0, i, 10 + i);
        }
        Check.due("decant", x, x.decant(0, 0, 0, 1, 4), true, 0);
        long[] want = {10, 10, 11, 12, 13};
        for (int i = 0; i < 5; i++) {
            Check.due("as they were", want[i], x.read(0, i));
        }
        Check.due("decant", x, x.decant(0, 1, 0, 0, 4), true, 0);
        Check.due("down", 13, x.read(0, 3));
        Check.due("down", 10, x.read(0, 0));
        Check.due("decant", x, x.decant(0, 2, 1, 1, 2), true, 0);
        Check.due("another", 12, x.read(1, 1));
        Check.due("another", 13, x.read(1, 2));
        Check.due("1 ahead of 3", x, x.decant(3, 0, 4, 0, 1), false, 1);
        Check.due("1", x, x.decant(-1, 0, 0, 0, 1), false, 1);
        Check.due("3 from", x, x.decant(3, 0, 2, 0, -1), false, 3);
        Check.due("3 to", x, x.decant(2, 0, 3, 0, -1), false, 3);
        Check.due("11 ahead of 6", x, x.decant(0, 0, 2, 0, -1), false, 11);
        Check.due("6 ahead of 4", x, x.decant(0, -1, 1, 0, -1), false, 6);
        Check.due("4 from", x, x.decant(0, 4, 1, 0, 2), false, 4);
        Check.due("4 to", x, x.decant(0, 0, 1, 2, 2), false, 4);
        Check.due("4 below", x, x.decant(0, -1, 1, 0, 1), false, 4);
        Check.due("4 below", x, x.decant(0, 0, 1, -1, 1), false, 4);
        Check.due("4 great", x, x.decant(0, Integer.MAX_VALUE, 1, 0, Integer.MAX_VALUE), false, 4);
        Check.due("nothing", x, x.decant(0, 5, 1, 3, 0), true, 0);
    }

    private static void feeding() {
        JellyCathedral x = new JellyCathedral();
        for (int i = 1; i <= 45; i++) {
            Check.due("feed", i * 20, x.feed(0x20202020, 0x20202020, 0x20202020, 0x20202020, 0x20202020));
        }
        Check.due("feed above 900", -1, x.feed(0, 0, 0, 0, 0));
        Check.due("901 bytes", x, x.see(901), -1, 5);
        Check.due("still full", -1, x.feed(0, 0, 0, 0, 0));
        Check.due("900 blanks", x, x.see(900), 0, 0);
        Check.due("empty then", 20, x.feed(0x68656174, 0x20373b21, 0x20202020, 0x20202020, 0x20202020));
        Check.due("heat 7; alone", x, x.see(7), 0, 0);
        Check.due("highest byte first", 7, x.many(3));
        Check.due("the rest is gone", x, x.see(1), -1, 5);
    }

    private static void seeTaken() {
        JellyCathedral x = Check.ofSee(Check.SEE);
        Check.due("fault", 0, x.fault(0));
        Check.due("fault place", -1, x.fault(1));
        Check.due("see -1", x, x.see(-1), -1, 5);
        Check.due("see least", x, x.see(Integer.MIN_VALUE), -1, 5);
        x.pour(0, 0, 4);
        x.empty(0);
        x.pour(1, 1, 3);
        x.knock(1);
        x.minute(3);
        Check.feasts(x, "any;");
        Check.due("spent", 23, x.many(6));
        Check.due("fell", 1, x.many(7));
        Check.due("see", x, Check.see(x, Check.SEE), 2, 0);
        Check.due("minute 0", 0, x.many(5));
        Check.due("nothing spent", 0, x.many(6));
        Check.due("nothing fell", 0, x.many(7));
        Check.due("no feasts", x, x.live(0), -1, 8);
        Check.due("see of nothing", x, x.see(0), 0, 0);
        Check.due("heat without", 3, x.many(3));
        Check.due("odds without", 2, x.many(4));
        Check.due("no moulds", 0, x.many(2));
        x = Check.ofSee("heat9;odds016;\n stuff\na sets 0009 costs 99;place b;mould c high 30 holds 9 at b;");
        Check.due("tokens without blanks", 9, x.many(3));
        Check.due("number of four digits", 16, x.many(4));
        Check.due("stock without", 20, x.stuff(0, 2));
        Check.due("sets", 9, x.stuff(0, 0));
        Check.due("costs", 99, x.stuff(0, 1));
        Check.due("high", 30, x.mould(0, 0));
        Check.due("holds", 9, x.mould(0, 1));
        x = Check.ofSee("place abcdefgh;stuff heatx sets 0 costs 0 stock 99;stuff bcdefghi sets 0 costs 0 stock 0;"
            + "mould y high 1 holds 1 at abcdefgh;heat 0;odds 0;");
        Check.due("stuffs", 2, x.many(0));
        Check.due("stock 99", 99, x.stuff(0, 2));
        Check.due("stock 0", 0, x.stuff(1, 2));
        Check.due("heat 0", 0, x.many(3));
        Check.due("odds 0", 0, x.many(4));
    }

    private static void seeFaults() {
        Check.seeFault("Heat 3;", 1, 0);
        Check.seeFault("heat\t3;", 1, 4);
        Check.seeFault("heat 3;" + (char) 233, 1, 7);
        Check.seeFault("heat 3;\r", 1, 7);
        Check.seeFault("heat 00003;", 1, 5);
        Check.seeFault("place a; 12345", 1, 9);
        Check.seeFault("heaT 3;", 2, 0);
        Check.seeFault("hea", 2, 0);
        Check.seeFault("heat", 2, 4);
        Check.seeFault("heat  \n ", 2, 8);
        Check.seeFault("heat 3", 2, 6);
        Check.seeFault("heat ;", 2, 5);
        Check.seeFault("heat < 3;", 2, 5);
        Check.seeFault("heat 3 3;", 2, 7);
        Check.seeFault("heat 3;;", 2, 7);
        Check.seeFault("; heat 3;", 2, 0);
        Check.seeFault("3;", 2, 0);
        Check.seeFault("pour;", 2, 0);
        Check.seeFault("place abcdefghi;", 2, 6);
        Check.seeFault("place 3;", 2, 6);
        Check.seeFault("place ;", 2, 6);
        Check.seeFault("stuff sets 1 costs 1;", 2, 6);
        Check.seeFault("place p;mould high 1 holds 1 at p;", 2, 14);
        Check.seeFault("place a;place b;walk a shakes 1;", 2, 23);
        Check.seeFault("place stop;", 2, 6);
        Check.seeFault("stuff a costs 3 sets 3;", 2, 8);
        Check.seeFault("stuff a sets 3 stock 3;", 2, 15);
        Check.seeFault("stuff a sets 3 costs 3 stock;", 2, 28);
        Check.seeFault("stuff a sets 3 costs 3 place;", 2, 23);
        Check.seeFault("place a;place b;walk a b 3;", 2, 25);
        Check.seeFault("place a;walk a heat shakes 3;", 2, 15);
        Check.seeFault("place a;mould m high 3 at a;", 2, 23);
        Check.seeFault("place a;mould m high 3 holds 3;", 2, 30);
        Check.seeFault("place a;place a;", 3, 14);
        Check.seeFault("place a;stuff a sets 1 costs 1;", 3, 14);
        Check.seeFault("place a;mould a high 1 holds 1 at a;", 3, 14);
        Check.seeFault("place a;walk b a shakes 1;", 3, 13);
        Check.seeFault("place a;walk a b shakes 1;place b;", 3, 15);
        Check.seeFault("stuff s sets 1 costs 1;mould m high 1 holds 1 at s;", 3, 49);
        Check.seeFault("mould m high 1 holds 1 at m;", 3, 26);
        Check.seeFault("walk b b shakes 1;", 3, 5);
        Check.seeFault("heat 10;", 4, 5);
        Check.seeFault("odds 17;", 4, 5);
        Check.seeFault("stuff a sets 10 costs 1;", 4, 13);
        Check.seeFault("stuff a sets 1 costs 100;", 4, 21);
        Check.seeFault("stuff a sets 1 costs 1 stock 100;", 4, 29);
        Check.seeFault("place a;place b;walk a b shakes 10;", 4, 32);
        Check.seeFault("place a;mould m high 0 holds 1 at a;", 4, 21);
        Check.seeFault("place a;mould m high 31 holds 1 at a;", 4, 21);
        Check.seeFault("place a;mould m high 1 holds 0 at a;", 4, 29);
        Check.seeFault("place a;mould m high 1 holds 10 at a;", 4, 29);
        Check.seeFault("heat 3;heat", 5, 7);
        Check.seeFault("odds 3;heat 3;odds 3;", 5, 14);
        Check.seeFault("place a;walk a a shakes 1;", 5, 15);
        String kept = "heat odds stuff sets costs stock place walk shakes mould high holds at pour void knock touch "
            + "carry minute any when stands firm loop end stop";
        for (String word : kept.split(" ")) {
            Check.seeFault("place " + word + ";", 2, 6);
            Check.due(word + "s", 0, Check.see(new JellyCathedral(), "place " + word + "z;"));
        }
    }

    private static void seeLimits() {
        StringBuilder stuffs = new StringBuilder();
        StringBuilder places = new StringBuilder();
        for (int i = 0; i < 5; i++) {
            stuffs.append("stuff s").append((char) ('a' + i)).append(" sets 1 costs 1;");
        }
        Check.due("five stuffs", 5, Check.ofSee(stuffs.toString()).many(0));
        Check.seeFault(stuffs + "stuff", 6, stuffs.length());
        for (int i = 0; i < 6; i++) {
            places.append("place p").append((char) ('a' + i)).append(';');
        }
        Check.due("six places", 6, Check.ofSee(places.toString()).many(1));
        Check.seeFault(places + "place pa;", 6, places.length());
        String walks = places.toString();
        for (int i = 0; i < 10; i++) {
            walks += "walk pa pb shakes " + (9 - i % 5) + ";";
        }
        Check.due("least of ten walks", 5, Check.ofSee(walks).shaken(0, 1));
        Check.seeFault(walks + "walk pa pa shakes 1;", 6, walks.length());
        String moulds = "place p;";
        for (int i = 0; i < 5; i++) {
            moulds += "mould m" + (char) ('a' + i) + " high 1 holds 1 at p;";
        }
        Check.due("five moulds", 5, Check.ofSee(moulds).many(2));
        Check.due("five void", 31, Check.ofSee(moulds).many(8));
        Check.seeFault(moulds + " mould 3", 6, moulds.length() + 1);
    }

    private static void feastsTaken() {
        JellyCathedral x = Check.ofSee(Check.SEE);
        Check.due("every step", x, Check.feasts(x, "pour big agar 1;void big;knock low;touch low;carry big choir;"
            + "minute 60;heat 0;any;when stands big;end;when firm big>99;when at low close;loop 99;stop;end;end;end;"),
            13, 0);
        Check.due("fault", 0, x.fault(0));
        Check.due("place", -1, x.fault(1));
        Check.due("firm < 0", x, Check.feasts(x, "when firm big < 0; when firm low = 5; end; end; heat 9;"), 3, 0);
        Check.due("feasts -1", x, x.feasts(-1), -1, 5);
        Check.due("too few on the tape", x, x.feasts(1), -1, 5);
        Check.feed(x, new byte[320]);
        Check.due("above 300", x, x.feasts(301), -1, 5);
        Check.due("300", x, x.feasts(300), -1, 10);
        Check.due("place", 0, x.fault(1));
        Check.due("the tape is empty", x, x.feasts(1), -1, 5);
        Check.due("the old ones stay", x, x.live(0), 2, 0);
        StringBuilder many = new StringBuilder();
        for (int i = 0; i < 15; i++) {
            many.append("loop 1;end;any;");
        }
        Check.due("thirty", x, Check.feasts(x, many.toString()), 30, 0);
        Check.due("no steps", x, Check.feasts(x, " \n"), 0, 0);
        Check.due("feasts of no steps are there", x, x.live(0), 0, 0);
    }

    private static void feastsFaults() {
        Check.feastsFault("any; -", 1, 5);
        Check.feastsFault("minute 10000;", 1, 7);
        Check.feastsFault("any any;", 2, 4);
        Check.feastsFault("end;", 2, 0);
        Check.feastsFault("any;end;", 2, 4);
        Check.feastsFault("loop 2;any;end;end;", 2, 15);
        Check.feastsFault("loop 2;any;end", 2, 14);
        Check.feastsFault("loop 2;any; ", 2, 12);
        Check.feastsFault("stuff a;", 2, 0);
        Check.feastsFault("stands big;", 2, 0);
        Check.feastsFault("firm big > 1;", 2, 0);
        Check.feastsFault("at big choir;", 2, 0);
        Check.feastsFault("pour big 3;", 2, 9);
        Check.feastsFault("pour big agar;", 2, 13);
        Check.feastsFault("touch bigbigbig;", 2, 6);
        Check.feastsFault("touch stands;", 2, 6);
        Check.feastsFault("carry big;", 2, 9);
        Check.feastsFault("when firm big ; 3;", 2, 14);
        Check.feastsFault("when firm big 3 > ;", 2, 14);
        Check.feastsFault("when stands big any;", 2, 16);
        Check.feastsFault("when big;", 2, 5);
        Check.feastsFault("when;end;", 2, 4);
        Check.feastsFault("when stands;end;", 2, 11);
        Check.feastsFault("when loop 3;", 2, 5);
        Check.feastsFault("stop 3;", 2, 5);
        Check.feastsFault("heat;", 2, 4);
        Check.feastsFault("loop;", 2, 4);
        Check.feastsFault("pour agar big 1;", 3, 5);
        Check.feastsFault("pour big low 1;", 3, 9);
        Check.feastsFault("pour big choir 1;", 3, 9);
        Check.feastsFault("void nobody;", 3, 5);
        Check.feastsFault("knock agar;", 3, 6);
        Check.feastsFault("carry big agar;", 3, 10);
        Check.feastsFault("when firm choir > 3;", 3, 10);
        Check.feastsFault("when at choir choir;", 3, 8);
        Check.feastsFault("when at big agar;", 3, 12);
        Check.feastsFault("pour big agar 0;", 4, 14);
        Check.feastsFault("minute 0;", 4, 7);
        Check.feastsFault("minute 61;", 4, 7);
        Check.feastsFault("heat 10;", 4, 5);
        Check.feastsFault("loop 0;", 4, 5);
        Check.feastsFault("loop 100;", 4, 5);
        Check.feastsFault("when firm big > 100;", 4, 16);
        StringBuilder thirty = new StringBuilder();
        for (int i = 0; i < 30; i++) {
            thirty.append("any;");
        }
        Check.feastsFault(thirty + "any", 6, 120);
        Check.feastsFault("loop 1;loop 1;loop 1;" + thirty.substring(12) + "loop", 6, 129);
        Check.feastsFault("loop 1;when stands big;loop 1;when", 7, 30);
        Check.feastsFault("loop 1;loop 1;end;loop 1;end;loop 1;loop 1;loop 1;", 7, 43);
    }

    private static void faultTold() {
        JellyCathedral x = Check.ofSee(Check.SEE);
        Check.feasts(x, "any; -");
        Check.due("kind", 1, x.fault(0));
        Check.due("place", 5, x.fault(1));
        Check.due("what 2", -1, x.fault(2));
        Check.due("what -1", -1, x.fault(-1));
        x.see(1);
        x.feasts(301);
        Check.due("not by 5", 1, x.fault(0));
        x.mark();
        x.feasts(0);
        Check.due("fine again", 0, x.fault(0));
        Check.due("fine again", -1, x.fault(1));
        x.back();
        Check.due("not taken back", 0, x.fault(0));
    }

    private static void many() {
        JellyCathedral x = Check.ofSee(Check.SEE);
        Check.due("-1", x, x.many(-1), -1, 5);
        Check.due("11", x, x.many(11), -1, 5);
        int[] want = {3, 3, 2, 2, 4, 0, 0, 0, 3, 0, 0};
        for (int w = 0; w < want.length; w++) {
            Check.due("many " + w, x, x.many(w), want[w], 0);
        }
        x.pour(1, 1, 2);
        x.pour(1, 0, 1);
        x.minute(5);
        int[] then = {3, 3, 2, 2, 4, 5, 7, 0, 1, 2, 0};
        for (int w = 0; w < then.length; w++) {
            Check.due("many then " + w, x, x.many(w), then[w], 0);
        }
        x.knock(1);
        Check.due("stands", 2, x.many(10));
        Check.due("sets", 0, x.many(9));
        x.minute(3);
        Check.due("fell", 1, x.many(7));
        Check.due("void", 3, x.many(8));
    }

    private static void stuffsAndMoulds() {
        JellyCathedral x = Check.ofSee(Check.SEE);
        int[][] stuffs = {{6, 5, 4}, {1, 1, 30}, {9, 9, 2}};
        for (int s = 0; s < 3; s++) {
            for (int w = 0; w < 3; w++) {
                Check.due("stuff", x, x.stuff(s, w), stuffs[s][w], 0);
            }
        }
        Check.due("stuff 3", x, x.stuff(3, 9), -1, 2);
        Check.due("stuff -1", x, x.stuff(-1, 0), -1, 2);
        Check.due("stuff what", x, x.stuff(0, 3), -1, 5);
        Check.due("stuff what", x, x.stuff(0, -1), -1, 5);
        Check.due("mould 2", x, x.mould(2, 9), -1, 2);
        Check.due("mould -1", x, x.mould(-1, 0), -1, 2);
        Check.due("mould what", x, x.mould(0, 8), -1, 5);
        Check.due("mould what", x, x.mould(0, -1), -1, 5);
        x.pour(0, 0, 2);
        x.pour(0, 2, 1);
        x.carry(0, 2);
        x.minute(1);
        int[] want = {10, 5, 2, 1, 7, 21, 3, 0};
        for (int w = 0; w < want.length; w++) {
            Check.due("mould " + w, x, x.mould(0, w), want[w], 0);
        }
        Check.due("part", x, x.part(0, 0), 2, 0);
        Check.due("part", x, x.part(0, 1), 0, 0);
        Check.due("part", x, x.part(0, 2), 1, 0);
        Check.due("part of another", x, x.part(1, 0), 0, 0);
        Check.due("part", x, x.part(2, 0), -1, 2);
        Check.due("part", x, x.part(0, 3), -1, 2);
        Check.due("part", x, x.part(-1, 0), -1, 2);
        Check.due("part", x, x.part(0, -1), -1, 2);
    }

    private static void copyFirm() {
        JellyCathedral x = Check.ofSee(Check.SEE);
        Check.due("tray 4", x, x.copyFirm(4), -1, 1);
        Check.due("tray -1", x, x.copyFirm(-1), -1, 1);
        Check.due("missing", x, x.copyFirm(0), -1, 3);
        x.tray(0, 0, 1);
        Check.due("too few", x, x.copyFirm(0), -1, 4);
        x.tray(0, 0, 3);
        x.write(0, 0, 77);
        x.write(0, 2, 77);
        x.pour(1, 1, 2);
        x.minute(1);
        Check.due("copied", x, x.copyFirm(0), 2, 0);
        Check.due("void", 0, x.read(0, 0));
        Check.due("firm", 2, x.read(0, 1));
        Check.due("behind", 77, x.read(0, 2));
    }

    private static void pourAndEmpty() {
        JellyCathedral x = Check.ofSee(Check.SEE);
        Check.due("mould", x, x.pour(2, 0, 0), -1, 2);
        Check.due("mould", x, x.pour(-1, 0, 1), -1, 2);
        Check.due("stuff", x, x.pour(0, 3, 0), -1, 2);
        Check.due("stuff", x, x.pour(0, -1, 1), -1, 2);
        Check.due("0 parts", x, x.pour(0, 0, 0), -1, 5);
        Check.due("10 parts", x, x.pour(0, 0, 10), -1, 5);
        Check.due("no stock", x, x.pour(0, 2, 3), -1, 9);
        Check.due("no room", x, x.pour(1, 0, 4), -1, 9);
        Check.due("nothing spent", 0, x.many(6));
        Check.due("void", x, x.empty(0), -1, 9);
        Check.due("empty", x, x.empty(2), -1, 2);
        Check.due("all the stock", x, x.pour(0, 0, 4), 4, 0);
        Check.due("stock", 0, x.stuff(0, 2));
        Check.due("spent", 20, x.many(6));
        x.minute(2);
        Check.due("firm", 14, x.mould(0, 4));
        Check.due("all the room", x, x.pour(0, 1, 1), 5, 0);
        Check.due("firm is 0 then", 0, x.mould(0, 4));
        Check.due("strength", 25, x.mould(0, 5));
        Check.due("full", x, x.pour(0, 1, 1), -1, 9);
        x.minute(9);
        x.knock(0);
        Check.due("stands", x, x.pour(0, 1, 1), -1, 9);
        Check.due("of one that stands", x, x.empty(0), 5, 0);
        Check.due("void", 0, x.mould(0, 3));
        Check.due("no firm", 0, x.mould(0, 4));
        Check.due("no strength", 0, x.mould(0, 5));
        Check.due("no parts", 0, x.mould(0, 6));
        Check.due("no part", 0, x.part(0, 0));
        Check.due("it did not fall", 0, x.mould(0, 7));
        Check.due("stock is gone", 0, x.stuff(0, 2));
        x.pour(1, 1, 2);
        Check.due("of one that sets", x, x.empty(1), 2, 0);
        x = Check.ofSee("place p;mould m high 1 holds 9 at p;stuff s sets 9 costs 99 stock 9;");
        Check.due("nine parts", x, x.pour(0, 0, 9), 9, 0);
        Check.due("spent", 891, x.many(6));
    }

    private static void knockAndTouch() {
        JellyCathedral x = Check.ofSee(Check.SEE);
        Check.due("knock", x, x.knock(2), -1, 2);
        Check.due("knock", x, x.knock(-1), -1, 2);
        Check.due("knock void", x, x.knock(0), -1, 9);
        Check.due("touch", x, x.touch(2), -1, 2);
        Check.due("touch", x, x.touch(-1), -1, 2);
        Check.due("touch void", x, x.touch(0), -1, 9);
        x.pour(1, 0, 2);
        Check.due("knock not full", x, x.knock(1), -1, 9);
        x.pour(1, 1, 1);
        Check.due("touch sets", x, x.touch(1), -1, 9);
        Check.due("too soft", x, x.knock(1), 0, 0);
        Check.due("fell", 1, x.mould(1, 7));
        Check.due("void", 0, x.mould(1, 3));
        x.pour(1, 1, 3);
        x.minute(9);
        Check.due("strength 3 of 4", x, x.knock(1), 0, 0);
        x.pour(1, 1, 2);
        x.pour(1, 0, 1);
        x.warm(5);
        x.minute(1);
        Check.due("just high", x, x.knock(1), 1, 0);
        Check.due("firm", 4, x.mould(1, 4));
        Check.due("knock stands", x, x.knock(1), -1, 9);
        Check.due("touch falls", x, x.touch(1), 0, 0);
        Check.due("fell", 3, x.many(7));
        x.pour(1, 2, 2);
        x.pour(1, 1, 1);
        x.minute(2);
        x.knock(1);
        Check.due("1 less", x, x.touch(1), 7, 0);
        x = Check.ofSee("heat 0;stuff s sets 9 costs 0;place p;mould nine high 9 holds 2 at p;mould ten high 10 holds 2 at p;");
        for (int m = 0; m < 2; m++) {
            x.pour(m, 0, 2);
            x.minute(2);
            x.knock(m);
        }
        Check.due("high 9", x, x.touch(0), 17, 0);
        Check.due("high 10", x, x.touch(1), 16, 0);
        for (int i = 0; i < 3; i++) {
            x.touch(1);
        }
        Check.due("at its height", 10, x.mould(1, 4));
        Check.due("falls", x, x.touch(1), 0, 0);
        Check.due("fell", 1, x.mould(1, 7));
        Check.due("the other did not", 0, x.mould(0, 7));
    }

    private static void carry() {
        JellyCathedral x = Check.ofSee(Check.SEE + "place isle;");
        Check.due("mould", x, x.carry(2, 0), -1, 2);
        Check.due("mould", x, x.carry(-1, 0), -1, 2);
        Check.due("place", x, x.carry(0, 4), -1, 2);
        Check.due("place", x, x.carry(0, -1), -1, 2);
        Check.due("no way", x, x.carry(0, 3), -1, 8);
        Check.due("it is there", x, x.carry(0, 0), -1, 9);
        Check.due("void", x, x.carry(0, 2), 4, 0);
        Check.due("is there", 2, x.mould(0, 2));
        x.pour(1, 2, 2);
        x.pour(1, 0, 1);
        x.minute(1);
        Check.due("sets", x, x.carry(1, 1), 3, 0);
        Check.due("as firm", 7, x.mould(1, 4));
        x.knock(1);
        Check.due("stands", x, x.carry(1, 0), 3, 0);
        Check.due("less firm", 4, x.mould(1, 4));
        Check.due("stands yet", 2, x.mould(1, 3));
        Check.due("falls there", x, x.carry(1, 2), 4, 0);
        Check.due("void", 0, x.mould(1, 3));
        Check.due("there", 2, x.mould(1, 2));
        Check.due("fell", 1, x.many(7));
    }

    private static void minutes() {
        JellyCathedral x = Check.ofSee(Check.SEE);
        Check.due("0", x, x.minute(0), -1, 5);
        Check.due("-1", x, x.minute(-1), -1, 5);
        Check.due("100", x, x.minute(100), -1, 5);
        x.pour(0, 0, 3);
        x.pour(1, 0, 1);
        x.pour(1, 2, 2);
        Check.due("none fell", x, x.minute(1), 0, 0);
        Check.due("firm", 7, x.mould(0, 4));
        Check.due("a minute", 1, x.many(5));
        x.minute(2);
        Check.due("strength at most", 18, x.mould(0, 4));
        x.pour(0, 1, 2);
        x.minute(3);
        Check.due("strength", 20, x.mould(0, 4));
        Check.due("strength", 24, x.mould(1, 4));
        x.knock(0);
        x.knock(1);
        Check.due("softer", x, x.minute(5), 0, 0);
        Check.due("10 of 10", 10, x.mould(0, 4));
        Check.due("one fell", x, x.minute(1), 1, 0);
        Check.due("softer", 12, x.mould(1, 4));
        Check.due("another fell", x, x.minute(99), 1, 0);
        Check.due("fell", 2, x.many(7));
        for (int i = 0; i < 99; i++) {
            x.minute(99);
        }
        Check.due("minute", 111 + 99 * 99, x.many(5) );
        Check.due("above", x, x.minute(87 + 1), -1, 7);
        Check.due("last", x, x.minute(87), 0, 0);
        Check.due("9999", 9999, x.many(5));
        Check.due("above", x, x.minute(1), -1, 7);
        Check.due("5 ahead of 7", x, x.minute(100), -1, 5);
        x = Check.ofSee("heat 9;stuff s sets 9 costs 0;place p;mould m high 9 holds 1 at p;");
        x.pour(0, 0, 1);
        x.minute(9);
        Check.due("heat 9 sets nothing", 0, x.mould(0, 4));
    }

    private static void warmBuyRule() {
        JellyCathedral x = Check.ofSee(Check.SEE);
        Check.due("warm", x, x.warm(9), 2, 0);
        Check.due("warm", x, x.warm(0), 9, 0);
        Check.due("it is so", x, x.warm(0), -1, 9);
        Check.due("10", x, x.warm(10), -1, 5);
        Check.due("-1", x, x.warm(-1), -1, 5);
        Check.due("heat", 0, x.many(3));
        Check.due("stuff", x, x.buy(3, 0), -1, 2);
        Check.due("stuff", x, x.buy(-1, 1), -1, 2);
        Check.due("0", x, x.buy(0, 0), -1, 5);
        Check.due("100", x, x.buy(0, 100), -1, 5);
        for (int i = 1; i <= 10; i++) {
            Check.due("buy", x, x.buy(0, 99), 4 + 99 * i, 0);
        }
        Check.due("999", x, x.buy(0, 6), -1, 7);
        Check.due("999", x, x.buy(0, 5), 999, 0);
        Check.due("above", x, x.buy(0, 1), -1, 7);
        Check.due("nothing spent", 0, x.many(6));
        Check.due("rule", x, x.rule(16), true, 0);
        Check.due("rule", x, x.rule(17), false, 5);
        Check.due("rule", x, x.rule(-1), false, 5);
        Check.due("odds", 16, x.many(4));
        Check.due("rule", x, x.rule(16), true, 0);
        Check.due("rule", x, x.rule(0), true, 0);
        Check.due("odds", 0, x.many(4));
    }

    private static void firmIn() {
        JellyCathedral x = Check.ofSee(Check.SEE);
        Check.due("mould", x, x.firmIn(2, -1), -1, 2);
        Check.due("-1", x, x.firmIn(0, -1), -1, 5);
        Check.due("301", x, x.firmIn(0, 301), -1, 5);
        Check.due("void", x, x.firmIn(0, 300), 0, 0);
        x.pour(0, 0, 2);
        Check.due("sets", x, x.firmIn(0, 0), 0, 0);
        Check.due("sets", x, x.firmIn(0, 1), 7, 0);
        Check.due("strength", x, x.firmIn(0, 300), 12, 0);
        x.pour(0, 0, 2);
        x.pour(0, 1, 1);
        x.minute(2);
        x.knock(0);
        Check.due("stands", x, x.firmIn(0, 0), 14, 0);
        Check.due("stands", x, x.firmIn(0, 2), 10, 0);
        Check.due("fell", x, x.firmIn(0, 3), 0, 0);
        Check.due("fell", x, x.firmIn(0, 300), 0, 0);
        Check.due("nothing went by", 2, x.many(5));
        for (int i = 0; i < 2; i++) {
            x.warm(0);
            Check.due("heat 0", x, x.firmIn(0, 300), 14, 0);
        }
    }

    private static void lasts() {
        JellyCathedral x = Check.ofSee(Check.SEE);
        Check.due("mould", x, x.lasts(2), -1, 2);
        Check.due("void", x, x.lasts(0), -1, 9);
        x.warm(0);
        Check.due("void, heat 0", x, x.lasts(0), -1, 9);
        x.pour(1, 0, 2);
        Check.due("not full", x, x.lasts(1), -1, 9);
        x.pour(1, 1, 1);
        Check.due("at the knock, heat 0", x, x.lasts(1), 0, 0);
        x.minute(1);
        Check.due("for ever", x, x.lasts(1), -1, 8);
        x.warm(3);
        Check.due("sets 9 of 4", x, x.lasts(1), 2, 0);
        x.knock(1);
        Check.due("stands 9 of 4", x, x.lasts(1), 2, 0);
        Check.due("1", x, x.minute(1), 0, 0);
        Check.due("2", x, x.minute(1), 1, 0);
        x.warm(0);
        x.pour(1, 0, 2);
        x.pour(1, 1, 1);
        x.minute(1);
        x.knock(1);
        Check.due("stands for ever", x, x.lasts(1), -1, 8);
        x.warm(9);
        Check.due("9 of 4 by 9", x, x.lasts(1), 1, 0);
        x.warm(5);
        Check.due("9 of 4 by 5", x, x.lasts(1), 2, 0);
        x.warm(1);
        Check.due("9 of 4 by 1", x, x.lasts(1), 6, 0);
    }

    private static void waits() {
        JellyCathedral x = Check.ofSee(Check.SEE);
        Check.due("mould", x, x.waits(2, -1), -1, 2);
        Check.due("-1", x, x.waits(0, -1), -1, 5);
        Check.due("100", x, x.waits(0, 100), -1, 5);
        Check.due("void", x, x.waits(0, 0), -1, 9);
        x.pour(1, 0, 2);
        Check.due("not full", x, x.waits(1, 99), -1, 9);
        x.pour(1, 1, 1);
        Check.due("0", x, x.waits(1, 0), 1, 0);
        Check.due("1", x, x.waits(1, 1), 1, 0);
        Check.due("2: 13 of 4 lasts 5", x, x.waits(1, 2), 2, 0);
        Check.due("4", x, x.waits(1, 4), 2, 0);
        Check.due("5", x, x.waits(1, 5), -1, 8);
        x.minute(1);
        Check.due("0 now", x, x.waits(1, 1), 0, 0);
        x.warm(9);
        Check.due("7 of 4 by 9 lasts 1", x, x.waits(1, 0), 0, 0);
        Check.due("7 of 4 by 9 lasts 1", x, x.waits(1, 1), -1, 8);
        x.warm(0);
        Check.due("for ever", x, x.waits(1, 99), 0, 0);
        x.knock(1);
        Check.due("stands", x, x.waits(1, 0), -1, 9);
        x = Check.ofSee("heat 9;stuff s sets 9 costs 0;place p;mould m high 9 holds 9 at p;");
        x.pour(0, 0, 9);
        Check.due("never", x, x.waits(0, 0), -1, 8);
        x.warm(8);
        Check.due("slowly", x, x.waits(0, 8), 73, 0);
        Check.due("slowly", x, x.waits(0, 9), 81, 0);
        Check.due("never", x, x.waits(0, 10), -1, 8);
    }

    private static void fallIn() {
        JellyCathedral x = Check.ofSee(Check.SEE);
        Check.due("nothing stands", x, x.fallIn(), 0, 0);
        x.pour(0, 0, 3);
        x.pour(0, 1, 2);
        x.pour(1, 2, 1);
        x.pour(1, 1, 2);
        Check.due("nothing stands", x, x.fallIn(), 0, 0);
        x.minute(3);
        x.knock(0);
        Check.due("20 of 10 by 2", x, x.fallIn(), 6, 0);
        x.knock(1);
        Check.due("11 of 4 by 2 is sooner", x, x.fallIn(), 6, 0);
        x.minute(5);
        Check.due("the last one", x, x.fallIn(), 1, 0);
        x.warm(0);
        Check.due("never", x, x.fallIn(), -1, 8);
        x.empty(0);
        x.empty(1);
        Check.due("nothing stands", x, x.fallIn(), 0, 0);
    }

    private static void mixtures() {
        JellyCathedral x = Check.ofSee(Check.SEE);
        Check.due("mould", x, x.mix(2, -1), -1, 2);
        Check.due("-1", x, x.mix(0, -1), -1, 5);
        Check.due("82", x, x.mix(0, 82), -1, 5);
        Check.due("81", x, x.mix(0, 81), -1, 8);
        Check.due("37", x, x.mix(0, 37), -1, 8);
        Check.due("36: leaf 2, agar 3", x, x.mix(0, 36), 33, 0);
        Check.due("part", x, x.mixPart(0, 36, 0), 3, 0);
        Check.due("part", x, x.mixPart(0, 36, 1), 0, 0);
        Check.due("part", x, x.mixPart(0, 36, 2), 2, 0);
        Check.due("0: milk", x, x.mixPart(0, 0, 1), 5, 0);
        Check.due("part stuff", x, x.mixPart(0, 99, 3), -1, 2);
        Check.due("part stuff", x, x.mixPart(0, 99, -1), -1, 2);
        Check.due("part mould", x, x.mixPart(-1, 99, 0), -1, 2);
        Check.due("part number", x, x.mixPart(0, 82, 0), -1, 5);
        Check.due("part none", x, x.mixPart(0, 37, 0), -1, 8);
        Check.due("strongest", x, x.strongest(0), 36, 0);
        Check.due("strongest low", x, x.strongest(1), 24, 0);
        Check.due("strongest mould", x, x.strongest(2), -1, 2);
        Check.due("fillings", x, x.fillings(0), 14, 0);
        Check.due("fillings low", x, x.fillings(1), 9, 0);
        Check.due("fillings mould", x, x.fillings(-1), -1, 2);
        x.pour(0, 0, 4);
        Check.due("without agar", x, x.strongest(0), 21, 0);
        Check.due("without agar", x, x.fillings(0), 3, 0);
        Check.due("without agar", x, x.mix(0, 20), 21, 0);
        x = Check.ofSee("stuff a sets 2 costs 3 stock 9;stuff b sets 2 costs 3 stock 2;stuff c sets 2 costs 3 stock 9;"
            + "place p;mould m high 1 holds 3 at p;");
        Check.due("as cheap", x, x.mix(0, 6), 9, 0);
        Check.due("most of the first", x, x.mixPart(0, 6, 0), 3, 0);
        x.pour(0, 0, 3);
        x.empty(0);
        x.pour(0, 0, 3);
        x.empty(0);
        x.pour(0, 0, 2);
        Check.due("one left", x, x.mixPart(0, 6, 0), 1, 0);
        Check.due("then the second", x, x.mixPart(0, 6, 1), 2, 0);
        Check.due("then the third", x, x.mixPart(0, 6, 2), 0, 0);
        Check.due("fillings", x, x.fillings(0), 6, 0);
        x = Check.ofSee("stuff a sets 9 costs 3 stock 2;place p;mould m high 1 holds 3 at p;mould n high 1 holds 2 at p;");
        Check.due("can't be filled", x, x.strongest(0), -1, 8);
        Check.due("can't be filled", x, x.fillings(0), 0, 0);
        Check.due("can't be filled", x, x.mix(0, 0), -1, 8);
        Check.due("all of it", x, x.fillings(1), 1, 0);
        Check.due("all of it", x, x.strongest(1), 18, 0);
        x = Check.ofSee("place p;mould m high 1 holds 3 at p;");
        Check.due("of nothing", x, x.fillings(0), 0, 0);
        Check.due("of nothing", x, x.strongest(0), -1, 8);
        x = Check.ofSee("stuff a sets 9 costs 0;stuff b sets 1 costs 0;stuff c sets 1 costs 0;stuff d sets 1 costs 0;"
            + "stuff e sets 1 costs 0;place p;mould m high 1 holds 9 at p;");
        Check.due("most of all", x, x.fillings(0), 715, 0);
        Check.due("81", x, x.mix(0, 81), 0, 0);
        Check.due("81", x, x.strongest(0), 81, 0);
    }

    private static void walks() {
        JellyCathedral x = Check.ofSee(Check.SEE + "place isle;");
        Check.due("2", x, x.shaken(4, 0), -1, 2);
        Check.due("2", x, x.shaken(0, -1), -1, 2);
        Check.due("8", x, x.shaken(0, 3), -1, 8);
        Check.due("itself", x, x.shaken(3, 3), 0, 0);
        Check.due("by close", x, x.shaken(0, 2), 4, 0);
        Check.due("back", x, x.shaken(2, 0), 4, 0);
        Check.due("way 2", x, x.way(4, 0, 0), -1, 2);
        Check.due("way 2", x, x.way(0, 4, 0), -1, 2);
        Check.due("no way", x, x.way(0, 3, 0), -1, 8);
        Check.due("stays", x, x.way(3, 3, 0), 3, 0);
        Check.due("stays", x, x.way(3, 3, 1), -1, 8);
        int[] want = {2, 1, 0};
        for (int k = 0; k < 3; k++) {
            Check.due("way", x, x.way(2, 0, k), want[k], 0);
        }
        Check.due("too far", x, x.way(2, 0, 3), -1, 8);
        Check.due("below", x, x.way(2, 0, -1), -1, 8);
        Check.due("far too far", x, x.way(2, 0, Integer.MAX_VALUE), -1, 8);
        x = Check.ofSee("place a;place b;place c;place d;place e;walk a b shakes 1;walk b e shakes 1;walk a c shakes 0;"
            + "walk c d shakes 1;walk d e shakes 1;walk a d shakes 2;walk d e shakes 0;");
        Check.due("least", x, x.shaken(0, 4), 1, 0);
        Check.due("a c d e", x, x.way(0, 4, 1), 2, 0);
        Check.due("a c d e", x, x.way(0, 4, 2), 3, 0);
        x = Check.ofSee("place a;place b;place c;place d;place e;walk a d shakes 1;walk d e shakes 1;walk a c shakes 1;"
            + "walk c e shakes 1;walk a b shakes 0;walk b d shakes 1;");
        Check.due("fewest walks, then the first", x, x.way(0, 4, 1), 2, 0);
        Check.due("two walks", x, x.way(0, 4, 2), 4, 0);
        Check.due("two walks", x, x.way(0, 4, 3), -1, 8);
        Check.due("one walk of as much", x, x.way(0, 3, 1), 3, 0);
        x = Check.ofSee("place a;place b;place c;walk a b shakes 0;walk b c shakes 0;");
        Check.due("0 shaken", x, x.shaken(0, 2), 0, 0);
        Check.due("0 shaken", x, x.way(0, 2, 1), 1, 0);
        Check.due("0 shaken", x, x.way(2, 0, 1), 1, 0);
    }

    private static void reach() {
        JellyCathedral x = Check.ofSee(Check.SEE + "place isle;");
        Check.due("2", x, x.reach(2), -1, 2);
        Check.due("void", x, x.reach(0), -1, 9);
        x.pour(1, 0, 2);
        x.pour(1, 1, 1);
        Check.due("sets", x, x.reach(1), -1, 9);
        x.minute(1);
        x.knock(1);
        Check.due("7 of 4: close", x, x.reach(1), 3, 0);
        x.carry(1, 1);
        Check.due("4 of 4", x, x.reach(1), 2, 0);
        x.empty(1);
        x.pour(1, 0, 2);
        x.pour(1, 1, 1);
        x.minute(9);
        x.knock(1);
        Check.due("13 of 4", x, x.reach(1), 7, 0);
    }

    private static void fits() {
        JellyCathedral x = Check.ofSee(Check.SEE);
        Check.due("1 ahead of 2", x, x.fits(2, 4, 0), -1, 1);
        Check.due("2 ahead of 3", x, x.fits(2, 0, 0), -1, 2);
        Check.due("3 ahead of 5", x, x.fits(1, 0, -1), -1, 3);
        Check.due("3 by 0", x, x.fits(1, 0, 0), -1, 3);
        x.tray(0, 1, 5);
        Check.due("4 ahead of 5", x, x.fits(1, 0, 3), -1, 4);
        Check.due("4 great", x, x.fits(1, 0, Integer.MAX_VALUE), -1, 4);
        Check.due("5", x, x.fits(1, 0, -1), -1, 5);
        Check.due("heat 0", x, x.fits(1, 0, 1), -1, 5);
        x.write(0, 0, 3);
        x.write(0, 1, 4);
        Check.due("heat 0 of the second two", x, x.fits(1, 0, 2), -1, 5);
        x.write(0, 2, 5);
        x.write(0, 3, -1);
        Check.due("minutes of the second two", x, x.fits(1, 0, 2), -1, 5);
        x.write(0, 3, 3);
        // By agar, milk, leaf: 18 13 21 8 16 24 3 11 19 27, of height 4.
        Check.due("all", x, x.fits(1, 0, 0), 10, 0);
        Check.due("13 to 15", x, x.fits(1, 0, 1), 1, 0);
        Check.due("14 to 18, too", x, x.fits(1, 0, 2), 0, 0);
        x.write(0, 3, 2);
        Check.due("9 to 13, too", x, x.fits(1, 0, 2), 1, 0);
        Check.due("least", x, x.fitsBy(1, 0, 2, 0), 13, 0);
        Check.due("greatest", x, x.fitsBy(1, 0, 0, 1), 27, 0);
        Check.due("least", x, x.fitsBy(1, 0, 0, 0), 3, 0);
        x.write(0, 3, 1);
        Check.due("none", x, x.fitsBy(1, 0, 2, 0), -1, 8);
        Check.due("what", x, x.fitsBy(1, 0, 2, 2), -1, 5);
        Check.due("what", x, x.fitsBy(1, 0, 2, -1), -1, 5);
        Check.due("1", x, x.fitsBy(2, -1, 2, 3), -1, 1);
        Check.due("2", x, x.fitsBy(-1, 1, 2, 3), -1, 2);
        Check.due("3", x, x.fitsBy(1, 1, 2, 3), -1, 3);
        Check.due("4", x, x.fitsBy(1, 0, 3, 3), -1, 4);
        x.write(0, 1, 100);
        Check.due("minutes 100", x, x.fits(1, 0, 1), -1, 5);
        x.write(0, 1, -1);
        Check.due("minutes -1", x, x.fits(1, 0, 1), -1, 5);
        x.write(0, 1, 99);
        Check.due("minutes 99", x, x.fits(1, 0, 1), 0, 0);
        x.write(0, 0, 10);
        Check.due("heat 10", x, x.fits(1, 0, 1), -1, 5);
        Check.due("the first n alone", x, x.fits(1, 0, 0), 10, 0);
        x.write(0, 0, 1);
        x.write(0, 1, 0);
        Check.due("at the knock", x, x.fitsBy(1, 0, 1, 1), 3, 0);
        x.tray(1, 3, 60);
        for (int i = 0; i < 60; i++) {
            x.write(1, i, 1);
        }
        Check.due("20 twos", x, x.fits(1, 1, 20), 0, 0);
        Check.due("21 twos", x, x.fits(1, 1, 21), -1, 5);
        Check.due("31 twos", x, x.fits(1, 1, 31), -1, 4);
        x.write(1, 0, (1L << 32) + 1);
        Check.due("a great heat", x, x.fits(1, 1, 1), -1, 5);
        x = Check.ofSee("stuff s sets 9 costs 9 stock 0;place p;mould m high 1 holds 9 at p;");
        x.tray(0, 0, 4);
        x.write(0, 0, 9);
        x.write(0, 1, 9);
        x.write(0, 2, 1);
        x.write(0, 3, 81);
        Check.due("81", x, x.fits(0, 0, 2), 1, 0);
        Check.due("81", x, x.fitsBy(0, 0, 2, 0), 81, 0);
        Check.due("81", x, x.fitsBy(0, 0, 2, 1), 81, 0);
        x.write(0, 3, 80);
        Check.due("81 does not", x, x.fits(0, 0, 2), 0, 0);
    }

    private static void ask() {
        JellyCathedral x = Check.ofSee("stuff a sets 0 costs 0 stock 0;stuff b sets 3 costs 0 stock 0;place p;"
            + "mould m high 4 holds 3 at p;mould n high 20 holds 2 at p;");
        x.tray(0, 0, 4);
        // 0 3 6 9 of height 4: by 1: 0 0 3 6; by 3 0 0 1 2, by 6: 0 0 1 1.
        Check.due("least heat", x, x.ask(0, 0, 0), 1, 0);
        x.write(0, 0, 9);
        x.write(0, 1, 1);
        Check.due("6 and 9", x, x.ask(0, 0, 1), 1, 0);
        x.write(0, 0, 1);
        x.write(0, 1, 6);
        Check.due("9 alone", x, x.ask(0, 0, 1), -1, 8);
        Check.due("all fall at the knock", x, x.ask(1, 0, 0), 1, 0);
        Check.due("1", x, x.ask(2, 4, 9), -1, 1);
        Check.due("2", x, x.ask(2, 1, 9), -1, 2);
        Check.due("3", x, x.ask(0, 1, 9), -1, 3);
        Check.due("4", x, x.ask(0, 0, 3), -1, 4);
        Check.due("5", x, x.ask(0, 0, -1), -1, 5);
        x = Check.ofSee("stuff a sets 9 costs 0;place p;mould m high 4 holds 3 at p;");
        x.tray(0, 0, 0);
        Check.due("one way", x, x.ask(0, 0, 0), -1, 8);
    }

    private static void games() {
        JellyCathedral x = Check.ofSee(Check.SEE);
        Check.due("2", x, x.game(2, 0, 9), -1, 2);
        Check.due("2", x, x.game(0, -1, 9), -1, 2);
        Check.due("itself", x, x.game(1, 1, 1), -1, 5);
        Check.due("-1", x, x.game(0, 1, -1), -1, 5);
        Check.due("5", x, x.game(0, 1, 5), -1, 5);
        Check.due("0", x, x.game(0, 1, 0), 0, 0);
        Check.due("1", x, x.game(0, 1, 1), 9, 0);
        Check.due("2", x, x.game(0, 1, 2), 0, 0);
        Check.due("3", x, x.game(0, 1, 3), 6, 0);
        Check.due("4", x, x.game(0, 1, 4), 0, 0);
        Check.due("move 2", x, x.moveOf(2, 0, 0), -1, 2);
        Check.due("move 0", x, x.moveOf(0, 1, 0), -1, 5);
        Check.due("move 5", x, x.moveOf(0, 1, 5), -1, 5);
        Check.due("move itself", x, x.moveOf(0, 0, 1), -1, 5);
        Check.due("move", x, x.moveOf(0, 1, 1), 2, 0);
        Check.due("move as good", x, x.moveOf(0, 1, 3), 0, 0);
        x.pour(1, 1, 1);
        Check.due("-1", x, x.game(0, 1, 0), -1, 0);
        Check.due("nothing changed", 4, x.stuff(0, 2));
        x.pour(0, 1, 5);
        Check.due("full", x, x.moveOf(0, 1, 1), -1, 8);
        Check.due("full", x, x.game(0, 1, 4), 5 - 1 - 18, 0);
        x.minute(1);
        x.empty(0);
        x.pour(1, 0, 2);
        x.minute(9);
        x.knock(1);
        Check.due("one that stands can't", x, x.game(1, 0, 2), 13 - 9, 0);
        Check.due("one that stands can't", x, x.moveOf(1, 0, 2), -1, 8);
        x = Check.ofSee("stuff a sets 0 costs 0;place p;mould m high 4 holds 3 at p;mould n high 4 holds 2 at p;");
        Check.due("nothing comes last", x, x.moveOf(0, 1, 4), 0, 0);
        // The one part left of b: who takes it first has it.
        x = Check.ofSee("stuff a sets 1 costs 0;stuff b sets 5 costs 0 stock 1;place p;mould m high 4 holds 1 at p;"
            + "mould n high 4 holds 2 at p;");
        Check.due("one part left", x, x.game(0, 1, 2), 4, 0);
        Check.due("the second takes it", x, x.game(1, 0, 2), 4, 0);
        Check.due("two of his", x, x.game(1, 0, 3), 5, 0);
        x = Check.ofSee("place p;mould m high 4 holds 1 at p;mould n high 4 holds 2 at p;");
        Check.due("no stuff", x, x.game(0, 1, 4), 0, 0);
        Check.due("no stuff", x, x.moveOf(0, 1, 4), -1, 8);
    }

    private static void bubbles() {
        JellyCathedral x = Check.ofSee(Check.SEE);
        int[][] bad = {{-1, 0}, {13, 0}, {0, -1}, {0, 13}};
        for (int[] b : bad) {
            Check.due("5", x, x.bubbles(b[0], b[1]), false, 5);
        }
        Check.fraction("nothing told", x, 0, 1);
        Check.due("0 0", x, x.bubbles(0, 0), true, 0);
        Check.fraction("0 0", x, 1, 1);
        Check.due("3 4", x, x.bubbles(3, 4), true, 0);
        Check.fraction("3 4", x, 0, 1);
        Check.due("12 12", x, x.bubbles(12, 12), true, 0);
        Check.fraction("12 12", x, 1, 1L << 24);
        x.bubbles(3, 2);
        Check.fraction("3 2 of a quarter", x, 5, 32);
        x.rule(0);
        x.bubbles(5, 1);
        Check.fraction("odds 0", x, 0, 1);
        x.bubbles(5, 0);
        Check.fraction("odds 0", x, 1, 1);
        x.rule(16);
        x.bubbles(12, 12);
        Check.fraction("odds 16", x, 1, 1);
        x.rule(1);
        x.bubbles(12, 1);
        Check.fraction("odds 1", x, (1L << 48) - 129746337890625L, 1L << 48);
    }

    private static void poise() {
        JellyCathedral x = Check.ofSee(Check.SEE);
        Check.due("2", x, x.poise(2), false, 2);
        Check.due("9", x, x.poise(0), false, 9);
        x.pour(0, 0, 4);
        x.pour(0, 1, 1);
        Check.due("9", x, x.poise(0), false, 9);
        x.minute(9);
        x.knock(0);
        Check.due("25 by 10", x, x.poise(0), true, 0);
        Check.fraction("25 by 10", x, 5, 2);
        x.warm(5);
        x.minute(3);
        x.poise(0);
        Check.fraction("10 by 10", x, 1, 1);
    }

    private static void live() {
        JellyCathedral x = Check.ofSee(Check.SEE);
        Check.due("5 ahead of 8", x, x.live(-1), -1, 5);
        Check.due("5", x, x.live(10000), -1, 5);
        Check.due("8", x, x.live(9999), -1, 8);
        Check.due("lived 8", x, x.lived(4), -1, 8);
        Check.due("lived 5", x, x.lived(5), -1, 5);
        Check.due("lived 5", x, x.lived(-1), -1, 5);
        Check.feasts(x, "pour low milk 2; pour low agar 1; loop 2; minute 3; end; knock low; when stands low; "
            + "carry low choir; end; minute 9; heat 2; pour low leaf 1; heat 5; stop; any;");
        // 8 of 4 stands, 4 behind the way, falls in the nine minutes; heat 2 is missed.
        Check.due("steps", x, x.live(9999), 13, 0);
        int[] want = {1, 15, 1, 16, 0};
        for (int w = 0; w < 5; w++) {
            Check.due("lived " + w, x, x.lived(w), want[w], 0);
        }
        Check.due("it stays so", 15, x.many(5));
        Check.due("it stays so", 1, x.many(7));
        Check.due("it stays so", 16, x.many(6));
        Check.due("it stays so", 5, x.many(3));
        Check.due("it stays so", 2, x.mould(1, 2));
        Check.due("it stays so", 9, x.mould(1, 5));
        Check.due("refused", x, x.live(10000), -1, 5);
        Check.due("lived is not by it", x, x.lived(1), 15, 0);
        Check.see(x, "");
        Check.due("whatever came since", x, x.lived(1), 15, 0);
        x.live(0);
        Check.due("whatever came since", x, x.lived(3), 16, 0);
        Check.feasts(x, "any;");
        Check.due("any without moulds", x, x.live(0), 1, 0);
        Check.due("is missed", x, x.lived(0), 1, 0);
        Check.due("the latest", x, x.lived(1), 0, 0);
    }

    private static void missed(String see, String feasts, int want) {
        JellyCathedral x = Check.ofSee(see);
        Check.feasts(x, feasts);
        x.live(0);
        Check.due("missed in " + feasts, x, x.lived(0), want, 0);
    }

    private static void liveMissed() {
        String see = Check.SEE + "place isle;";
        missed(see, "pour low leaf 3;", 1);
        missed(see, "pour low milk 4;", 1);
        missed(see, "pour low milk 3; pour low milk 1;", 1);
        missed(see, "void low;", 1);
        missed(see, "pour low milk 3; void low;", 0);
        missed(see, "knock low;", 1);
        missed(see, "pour low milk 2; knock low;", 1);
        missed(see, "pour low milk 3; knock low;", 0);
        missed(see, "pour low agar 3; minute 9; knock low; knock low;", 1);
        missed(see, "pour low agar 3; minute 9; knock low; pour low milk 1;", 1);
        missed(see, "pour low agar 3; minute 9; touch low; knock low; touch low;", 1);
        missed(see, "touch low;", 1);
        missed(see, "carry low kitchen;", 1);
        missed(see, "carry low isle;", 1);
        missed(see, "carry low close; carry low kitchen;", 0);
        missed(see, "heat 2;", 1);
        missed(see, "heat 3;heat 2;", 0);
        missed("odds 16;", "any;", 1);
        missed("odds 16;place p;mould m high 1 holds 1 at p;", "any;", 1);
        missed("heat 0;odds 16;stuff s sets 9 costs 1;place p;mould m high 1 holds 1 at p;",
            "pour m s 1;minute 3;knock m;any;", 0);
        missed("heat 0;odds 0;stuff s sets 9 costs 1;place p;mould m high 1 holds 1 at p;",
            "pour m s 1;minute 3;knock m;any;", 1);
        JellyCathedral x = Check.ofSee("");
        for (int i = 0; i < 100; i++) {
            x.minute(99);
        }
        Check.feasts(x, "minute 60;minute 40;minute 39;minute 1;");
        Check.due("to 9999", x, x.live(0), 4, 0);
        Check.due("missed as a whole", x, x.lived(0), 2, 0);
        Check.due("minutes", x, x.lived(1), 99, 0);
        Check.due("minute", 9999, x.many(5));
    }

    private static void test(String test, boolean want) {
        JellyCathedral x = Check.ofSee(Check.SEE);
        x.pour(1, 0, 2);
        x.pour(1, 1, 1);
        x.minute(1);
        x.knock(1);
        x.carry(0, 1);
        Check.feasts(x, "when " + test + "; heat 3; heat 4; end; heat 9;");
        Check.due("steps by " + test, x, x.live(0), want ? 4 : 2, 0);
    }

    private static void liveTests() {
        test("stands low", true);
        test("stands big", false);
        test("firm low = 7", true);
        test("firm low = 8", false);
        test("firm low < 8", true);
        test("firm low < 7", false);
        test("firm low > 6", true);
        test("firm low > 7", false);
        test("firm big = 0", true);
        test("at big close", true);
        test("at big kitchen", false);
        test("at low kitchen", true);
        JellyCathedral x = Check.ofSee(Check.SEE);
        Check.feasts(x, "loop 3; heat 5; when firm big = 0; loop 2; heat 6; end; end; end; stop;");
        // Each round is heat, when, loop and two of heat; the second of the two is missed.
        Check.due("nested", x, x.live(0), 1 + 3 * 5 + 1, 0);
        Check.due("missed", x, x.lived(0), 3, 0);
        Check.feasts(x, "loop 9; heat 1; stop; end;");
        Check.due("stop within", x, x.live(0), 3, 0);
        Check.due("not left", x, x.lived(4), 0, 0);
        Check.feasts(x, "loop 99; end; loop 3; loop 99; end; end;");
        Check.due("loops of nothing", x, x.live(0), 5, 0);
    }

    private static void limit(String feasts, int steps, int left) {
        JellyCathedral x = Check.ofSee(Check.SEE);
        Check.feasts(x, feasts);
        Check.due("steps of " + feasts, x, x.live(0), steps, 0);
        Check.due("left of " + feasts, x, x.lived(4), left, 0);
    }

    private static void liveLimit() {
        limit("loop 99;any;any;any;end;any;", 299, 0);
        limit("loop 99;any;any;any;end;any;any;", 300, 0);
        limit("loop 99;any;any;any;end;any;any;any;", 300, 1);
        limit("loop 99;any;any;any;end;any;any;stop;", 300, 1);
        limit("loop 99;any;any;any;end;any;stop;any;", 300, 0);
        limit("loop 99;any;any;any;end;any;when stands big;any;end;", 300, 0);
        limit("loop 99;any;any;any;end;any;when firm big = 0;any;end;", 300, 1);
        limit("loop 99;any;any;any;end;any;loop 99;end;", 300, 0);
        limit("loop 99;any;any;any;end;any;loop 99;any;end;", 300, 1);
        limit("loop 99;loop 99;loop 99;end;end;end;", 300, 1);
    }

    private static void draws() {
        // By seed 1 s is 13838, then 32493: by 8 1729 and 4061, of which the first by 2 leaves 1, the second by 16 13.
        JellyCathedral x = Check.ofSee("heat 0;odds 14;stuff s sets 9 costs 1;place p;mould m high 1 holds 1 at p;"
            + "mould n high 1 holds 1 at p;");
        Check.feasts(x, "pour m s 1;pour n s 1;minute 1;knock m;knock n;any;");
        Check.due("live", x, x.live(1), 6, 0);
        Check.due("not touched", 9, x.mould(0, 4));
        Check.due("touched", 8, x.mould(1, 4));
        Check.due("none missed", x, x.lived(0), 0, 0);
        x.rule(13);
        x.empty(0);
        x.empty(1);
        Check.due("live", x, x.live(1), 6, 0);
        Check.due("13 is not below 13", 9, x.mould(1, 4));
        Check.due("missed", x, x.lived(0), 1, 0);
        int s = 77;
        int[] firm = {9, 9};
        x.rule(8);
        x.empty(0);
        x.empty(1);
        Check.feasts(x, "pour m s 1;pour n s 1;minute 1;knock m;knock n;loop 10;any;end;");
        for (int i = 0; i < 10; i++) {
            s = (s * 2971 + 10867) % 65536;
            int who = s / 8 % 2;
            s = (s * 2971 + 10867) % 65536;
            if (s / 8 % 16 < 8 && firm[who] > 0) {
                firm[who]--;
            }
        }
        x.live(77);
        Check.due("ten draws", firm[0], x.mould(0, 4));
        Check.due("ten draws", firm[1], x.mould(1, 4));
    }

    private static void mean() {
        JellyCathedral x = Check.ofSee("heat 0;odds 8;stuff s sets 9 costs 1;place p;mould m high 1 holds 1 at p;"
            + "mould n high 1 holds 1 at p;");
        Check.due("5 ahead of 8", x, x.mean(-1, 1), false, 5);
        Check.due("8", x, x.mean(0, 1), false, 8);
        Check.feasts(x, "pour m s 1;pour n s 1;minute 1;knock m;knock n;loop 5;any;end;");
        Check.due("seed", x, x.mean(10000, 1), false, 5);
        Check.due("none", x, x.mean(0, 0), false, 5);
        Check.due("21", x, x.mean(0, 21), false, 5);
        Check.due("the last", x, x.mean(9981, 20), false, 5);
        Check.due("great", x, x.mean(Integer.MAX_VALUE, 20), false, 5);
        Check.fraction("nothing told", x, 0, 1);
        int sum = 0;
        for (int seed = 9980; seed < 10000; seed++) {
            x.mark();
            x.live(seed);
            sum += x.mould(0, 4) + x.mould(1, 4);
            x.back();
        }
        int missed = x.lived(0);
        Check.due("the last seed", x, x.mean(9999, 1), true, 0);
        Check.due("mean", x, x.mean(9980, 20), true, 0);
        int divisor = java.math.BigInteger.valueOf(sum).gcd(java.math.BigInteger.valueOf(20)).intValue();
        Check.fraction("mean", x, sum / divisor, 20 / divisor);
        Check.due("all stays", 0, x.many(5));
        Check.due("all stays", 3, x.many(8));
        Check.due("all stays", x, x.lived(0), missed, 0);
        Check.due("stock stays", 20, x.stuff(0, 2));
        x.mean(5, 1);
        long top = x.top();
        x.live(5);
        Check.due("one seed", top, x.mould(0, 4) + x.mould(1, 4));
    }

    private static void marks() {
        JellyCathedral x = Check.ofSee(Check.SEE);
        Check.due("8", x, x.back(), -1, 8);
        x.tray(0, 2, 1);
        Check.feasts(x, "minute 2;");
        x.pour(0, 0, 2);
        Check.due("1", x, x.mark(), 1, 0);
        x.pour(0, 0, 2);
        x.live(3);
        Check.feasts(x, "any;any;any;");
        x.warm(7);
        x.rule(1);
        x.write(0, 0, 5);
        Check.due("2", x, x.mark(), 2, 0);
        Check.see(x, "place nave;mould tiny high 1 holds 1 at nave;");
        Check.due("3", x, x.mark(), 3, 0);
        Check.due("7", x, x.mark(), -1, 7);
        x.minute(5);
        Check.due("2 left", x, x.back(), 2, 0);
        Check.due("see of the third", 1, x.many(2));
        Check.due("its minute", 0, x.many(5));
        Check.due("its names", x, Check.feasts(x, "void tiny;"), 1, 0);
        Check.due("1 left", x, x.back(), 1, 0);
        Check.due("see of the second", 2, x.many(2));
        Check.due("its minute", 2, x.many(5));
        Check.due("its heat", 7, x.many(3));
        Check.due("its odds", 1, x.many(4));
        Check.due("its parts", 4, x.part(0, 0));
        Check.due("its feasts", x, x.live(0), 3, 0);
        Check.due("its names", x, Check.feasts(x, "carry low choir;"), 1, 0);
        Check.due("its walks", 4, x.shaken(0, 2));
        Check.due("0 left", x, x.back(), 0, 0);
        Check.due("its heat", 2, x.many(3));
        Check.due("its odds", 4, x.many(4));
        Check.due("its stock", 2, x.stuff(0, 2));
        Check.due("its spent", 10, x.many(6));
        Check.due("its feasts", x, x.live(0), 1, 0);
        Check.due("its feasts", 2, x.many(5));
        Check.due("trays stay", 5, x.read(0, 0));
        Check.due("none left", x, x.back(), -1, 8);
        Check.due("1 again", x, x.mark(), 1, 0);
    }
}
