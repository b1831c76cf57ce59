/** The bounds of FEASTS as they are lived, of draws, and of MARKS. */
public final class FeastsTest {
    // Two MOULDS of nine parts; at HEAT 8 what SETS is 1 more firm a minute.
    private static final String SEE = "heat 8;odds 16;stuff s sets 9 costs 2 stock 18;stuff t sets 0 costs 1 stock 2;"
        + "place p;place q;place r;walk p q shakes 5;mould m high 10 holds 9 at p;mould n high 9 holds 9 at p;";

    public static void main(String[] args) {
        pourMissed();
        voidMissed();
        knockMissed();
        touchMissed();
        carryMissed();
        minuteMissed();
        heatMissed();
        anyMissed();
        whatTheyDo();
        tests();
        comparing();
        loops();
        stops();
        atMostThreeHundred();
        livedNumbers();
        livedStays();
        noFeasts();
        seeds();
        drawsOfMoulds();
        drawsByOdds();
        noDraws();
        nothingOfThoseAhead();
        means();
        marksInAll();
        whatAMarkKeeps();
        whatAMarkLeaves();
        Check.end();
    }

    private static JellyCathedral lived(String feasts, int steps, int missed) {
        return livedOf(Check.ofSee(SEE), feasts, steps, missed);
    }

    private static JellyCathedral livedOf(JellyCathedral x, String feasts, int steps, int missed) {
        Check.feasts(x, feasts);
        Check.due("STEPS of " + feasts, x, x.live(0), steps, 0);
        Check.due("MISSED of " + feasts, x, x.lived(0), missed, 0);
        return x;
    }

    // ---- what is MISSED, and the last that is not

    private static void pourMissed() {
        JellyCathedral x = lived("pour n t 2;", 1, 0);
        Check.due("all the STOCK", 0, x.stuff(1, 2));
        x = lived("pour n t 3;", 1, 1);
        Check.due("not the STOCK", 2, x.stuff(1, 2));
        Check.due("nothing of it", 0, x.mould(1, 6));
        Check.due("nothing SPENT", 0, x.lived(3));
        lived("pour n t 2;pour n t 1;", 2, 1);
        x = lived("pour m t 1;pour m s 8;", 2, 0);
        Check.due("all the ROOM", 9, x.mould(0, 6));
        x = lived("pour m t 1;pour m s 9;", 2, 1);
        Check.due("not the ROOM", 1, x.mould(0, 6));
        lived("pour m s 9;pour m t 1;", 2, 1);
        lived("pour m s 9;minute 10;knock m;pour m t 1;", 4, 1);
        lived("pour m s 9;minute 9;knock m;pour m t 1;", 4, 0);
    }

    private static void voidMissed() {
        lived("void m;", 1, 1);
        lived("pour m t 1;void m;", 2, 0);
        lived("pour m t 1;void m;void m;", 3, 1);
        JellyCathedral x = lived("pour m s 9;minute 10;knock m;void m;", 4, 0);
        Check.due("of what STANDS", 0, x.mould(0, 3));
        Check.due("it did not fall", 0, x.lived(2));
        lived("pour m s 9;minute 9;knock m;void m;", 4, 1);
        lived("pour m t 1;void n;", 2, 1);
    }

    private static void knockMissed() {
        lived("knock m;", 1, 1);
        lived("pour m s 8;minute 20;knock m;", 3, 1);
        JellyCathedral x = lived("pour m s 9;minute 9;knock m;", 3, 0);
        Check.due("1 below its HEIGHT: it fell", 1, x.lived(2));
        Check.due("VOID", 0, x.mould(0, 3));
        x = lived("pour m s 9;minute 10;knock m;", 3, 0);
        Check.due("its HEIGHT", 2, x.mould(0, 3));
        Check.due("none fell", 0, x.lived(2));
        lived("pour m s 9;minute 10;knock m;knock m;", 4, 1);
    }

    private static void touchMissed() {
        lived("touch m;", 1, 1);
        lived("pour m s 9;minute 20;touch m;", 3, 1);
        JellyCathedral x = lived("pour m s 9;minute 12;knock m;touch m;", 4, 0);
        Check.due("HEIGHT 10: 2 less", 10, x.mould(0, 4));
        x = lived("pour m s 9;minute 12;knock m;touch m;touch m;touch m;", 6, 1);
        Check.due("it fell", 1, x.lived(2));
        x = lived("pour n s 9;minute 12;knock n;touch n;", 4, 0);
        Check.due("HEIGHT 9: 1 less", 11, x.mould(1, 4));
    }

    private static void carryMissed() {
        lived("carry m p;", 1, 1);
        lived("carry m r;", 1, 1);
        JellyCathedral x = lived("carry m q;", 1, 0);
        Check.due("there", 1, x.mould(0, 2));
        lived("carry m q;carry m q;", 2, 1);
        lived("carry m q;carry m r;carry m p;", 3, 1);
        x = lived("pour m s 9;minute 15;knock m;carry m q;", 4, 0);
        Check.due("its HEIGHT", 10, x.mould(0, 4));
        x = lived("pour m s 9;minute 14;knock m;carry m q;", 4, 0);
        Check.due("below it", 0, x.mould(0, 3));
        Check.due("FALLS there", 1, x.mould(0, 2));
        Check.due("it fell", 1, x.lived(2));
    }

    private static void minuteMissed() {
        JellyCathedral x = Check.ofSee(SEE);
        for (int i = 0; i < 100; i++) {
            x.minute(99);
        }
        x.minute(39);
        x.pour(0, 0, 9);
        x.mark();
        livedOf(x, "minute 60;", 1, 0);
        Check.due("to 9,999", 9999, x.many(5));
        Check.due("MINUTES", 60, x.lived(1));
        livedOf(x, "minute 1;", 1, 1);
        Check.due("none beyond", 9999, x.many(5));
        Check.due("no MINUTES", 0, x.lived(1));
        x.back();
        x.minute(1);
        livedOf(x, "minute 60;", 1, 1);
        Check.due("MISSED as a whole", 9940, x.many(5));
        Check.due("nothing sets in it", 1, x.mould(0, 4));
        Check.due("no MINUTES", 0, x.lived(1));
        livedOf(x, "minute 60;minute 59;minute 1;", 3, 2);
        Check.due("to 9,999", 9999, x.many(5));
        Check.due("MINUTES", 59, x.lived(1));
    }

    private static void heatMissed() {
        for (int heat = 0; heat <= 9; heat++) {
            JellyCathedral x = lived("heat " + heat + ";", 1, heat == 8 ? 1 : 0);
            Check.due("HEAT", heat, x.many(3));
        }
        lived("heat 9;heat 8;heat 8;heat 9;", 4, 1);
    }

    private static void anyMissed() {
        lived("any;", 1, 1);
        lived("pour m s 9;pour n s 9;any;", 3, 1);
        JellyCathedral x = lived("pour m s 9;pour n s 9;minute 30;knock m;knock n;any;", 6, 0);
        Check.due("one of them is TOUCHED", true, x.mould(0, 4) == 28 ^ x.mould(1, 4) == 29);
        Check.due("the other is not", true, x.mould(0, 4) == 30 ^ x.mould(1, 4) == 30);
        livedOf(Check.ofSee(SEE.replace("odds 16", "odds 0")), "pour m s 9;pour n s 9;minute 30;knock m;knock n;any;", 6, 1);
        livedOf(Check.ofSee("odds 16;"), "any;any;", 2, 2);
        livedOf(Check.ofSee("odds 0;"), "any;", 1, 1);
    }

    // ---- what they do

    private static void whatTheyDo() {
        JellyCathedral x = lived("pour m s 9;pour n t 2;minute 60;heat 0;minute 1;", 5, 0);
        int[] want = {2, 3, 2, 0, 16, 61, 20, 0, 0, 3, 0};
        for (int w = 0; w < want.length; w++) {
            Check.due("many " + w, x, x.many(w), want[w], 0);
        }
        Check.due("firm", 69, x.mould(0, 4));
        Check.due("a STRENGTH of 0", 0, x.mould(1, 4));
        x = lived("pour m s 9;minute 11;knock m;minute 1;void m;", 5, 1);
        Check.due("FALLS in a minute", 1, x.lived(2));
        Check.due("VOID", 0, x.mould(0, 3));
    }

    private static void test(String ahead, int steps, String test, boolean holds) {
        JellyCathedral x = Check.ofSee(SEE);
        Check.feasts(x, ahead + "when " + test + ";heat 1;heat 2;end;heat 3;");
        Check.due("STEPS by " + test, x, x.live(0), steps + (holds ? 4 : 2), 0);
        Check.due("none MISSED by " + test, x, x.lived(0), 0, 0);
    }

    private static void tests() {
        test("", 0, "stands m", false);
        test("pour m s 9;minute 10;", 2, "stands m", false);
        test("pour m s 9;minute 10;knock m;", 3, "stands m", true);
        test("pour m s 9;minute 10;knock m;", 3, "stands n", false);
        test("pour m s 9;minute 9;knock m;", 3, "stands m", false);
        test("", 0, "at m p", true);
        test("", 0, "at m q", false);
        test("carry m q;", 1, "at m q", true);
        test("carry m q;", 1, "at m p", false);
        test("carry m q;", 1, "at n p", true);
        JellyCathedral x = lived("when stands m;any;any;end;", 1, 0);
        Check.due("none left", 0, x.lived(4));
        lived("when at m p;end;", 1, 0);
        lived("when at m q;end;", 1, 0);
    }

    private static void comparing() {
        int[][] firm = {{0, 0}, {1, 0}, {0, 1}, {9, 10}, {10, 10}, {11, 10}, {60, 99}};
        for (int[] f : firm) {
            String ahead = f[0] == 0 ? "" : "pour m s 9;minute " + f[0] + ";";
            int steps = f[0] == 0 ? 0 : 2;
            test(ahead, steps, "firm m < " + f[1], f[0] < f[1]);
            test(ahead, steps, "firm m > " + f[1], f[0] > f[1]);
            test(ahead, steps, "firm m = " + f[1], f[0] == f[1]);
        }
        // Of one that STANDS likewise.
        for (int n = 9; n <= 11; n++) {
            test("pour m s 9;minute 10;knock m;", 3, "firm m < " + n, 10 < n);
            test("pour m s 9;minute 10;knock m;", 3, "firm m > " + n, 10 > n);
            test("pour m s 9;minute 10;knock m;", 3, "firm m = " + n, 10 == n);
        }
    }

    private static void loops() {
        for (int n : new int[] {1, 2, 98, 99}) {
            JellyCathedral x = lived("loop " + n + ";minute 2;end;", 1 + n, 0);
            Check.due("as often", 2 * n, x.many(5));
            Check.due("none left", 0, x.lived(4));
            lived("loop " + n + ";end;", 1, 0);
        }
        JellyCathedral x = lived("loop 3;minute 1;loop 4;minute 2;end;minute 3;end;minute 4;", 1 + 3 * (1 + 1 + 4 + 1) + 1, 0);
        Check.due("within one another", 3 * (1 + 8 + 3) + 4, x.many(5));
        x = lived("loop 2;loop 2;loop 2;minute 1;end;end;end;", 1 + 2 * (1 + 2 * (1 + 2)), 0);
        Check.due("thrice", 8, x.many(5));
        x = lived("loop 3;when firm m = 0;pour m s 9;minute 1;end;minute 1;end;", 1 + 3 * 2 + 2, 0);
        Check.due("the first time alone", 4, x.many(5));
        lived("loop 2;loop 3;end;loop 3;end;end;", 1 + 2 * 2, 0);
        lived("loop 99;loop 2;end;end;", 1 + 99, 0);
        lived("loop 99;loop 99;end;end;any;", 1 + 99 + 1, 1);
        lived("loop 99;when stands m;any;end;end;", 1 + 99, 0);
    }

    private static void stops() {
        lived("stop;", 1, 0);
        JellyCathedral x = lived("minute 1;stop;minute 1;", 2, 0);
        Check.due("none behind it", 1, x.many(5));
        Check.due("not left by the 300", 0, x.lived(4));
        x = lived("loop 9;minute 1;stop;end;minute 1;", 3, 0);
        Check.due("out of a loop", 1, x.many(5));
        lived("when stands m;stop;end;heat 1;", 2, 0);
        lived("when at m p;stop;end;heat 1;", 2, 0);
        lived("loop 2;loop 2;when at m p;stop;end;end;end;heat 1;", 4, 0);
    }

    private static void atMostThreeHundred() {
        // 1 + 99 x 3 = 298 STEPS ahead.
        String ahead = "loop 99;any;any;any;end;";
        String[] upTo = {"", "any;", "any;any;", "any;stop;any;", "any;stop;", "any;when stands m;any;end;", "any;loop 99;end;",
            "any;when at m p;end;", "any;loop 1;end;"};
        int[] steps = {298, 299, 300, 300, 300, 300, 300, 300, 300};
        for (int i = 0; i < upTo.length; i++) {
            JellyCathedral x = Check.ofSee(SEE);
            Check.feasts(x, ahead + upTo[i]);
            Check.due("STEPS to " + upTo[i], x, x.live(1), steps[i], 0);
            Check.due("none left behind " + upTo[i], x, x.lived(4), 0, 0);
        }
        String[] beyond = {"any;any;any;", "any;any;stop;", "any;any;when stands m;end;", "any;any;loop 1;end;", "any;when at m p;any;end;",
            "any;loop 1;any;end;", "any;loop 1;loop 1;end;end;", "any;any;minute 1;", "any;when stands m;end;any;"};
        for (String b : beyond) {
            JellyCathedral x = Check.ofSee(SEE);
            Check.feasts(x, ahead + b);
            Check.due("STEPS to " + b, x, x.live(1), 300, 0);
            Check.due("one left of " + b, x, x.lived(4), 1, 0);
            Check.due("it is not done", 0, x.many(5));
            Check.due("all of them MISSED", true, x.lived(0) >= 297);
        }
        JellyCathedral x = Check.ofSee(SEE);
        Check.feasts(x, "loop 99;loop 99;minute 1;heat 7;heat 8;end;end;");
        Check.due("300", x, x.live(0), 300, 0);
        Check.due("1 and 1 and 99 by three, and the second loop again", x, x.lived(1), 99, 0);
        Check.due("left", x, x.lived(4), 1, 0);
        Check.due("none MISSED", x, x.lived(0), 0, 0);
        Check.due("HEAT", 8, x.many(3));
        Check.due("from the beginning again", x, x.live(0), 300, 0);
        Check.due("MINUTE", 198, x.many(5));
        x = Check.ofSee(SEE);
        Check.feasts(x, "loop 99;loop 99;loop 99;end;end;end;");
        Check.due("300", x, x.live(0), 300, 0);
        Check.due("left", x, x.lived(4), 1, 0);
    }

    // ---- LIVED

    private static void livedNumbers() {
        JellyCathedral x = Check.ofSee(SEE);
        x.pour(0, 0, 9);
        x.minute(9);
        x.knock(0);
        Check.due("fell ahead of it", 1, x.many(7));
        Check.feasts(x, "minute 5;pour n s 9;pour n s 1;minute 8;knock n;any;");
        Check.due("STEPS", x, x.live(3), 6, 0);
        int[] want = {2, 13, 1, 18, 0};
        for (int w = 0; w < want.length; w++) {
            Check.due("lived " + w, x, x.lived(w), want[w], 0);
        }
        Check.due("in all", 22, x.many(5));
        Check.due("in all", 36, x.many(6));
        Check.due("in all", 2, x.many(7));
        Check.refused("5", x, x.lived(5), 5);
        Check.refused("-1", x, x.lived(-1), 5);
        Check.due("STEPS", x, x.live(3), 6, 0);
        int[] again = {4, 13, 0, 0, 0};
        for (int w = 0; w < again.length; w++) {
            Check.due("lived again " + w, x, x.lived(w), again[w], 0);
        }
    }

    private static void livedStays() {
        JellyCathedral x = Check.ofSee(SEE);
        Check.refused("none yet", x, x.lived(0), 8);
        x.live(0);
        Check.refused("none by a refused one", x, x.lived(0), 8);
        x.mark();
        Check.feasts(x, "minute 7;heat 8;");
        Check.refused("none by FEASTS", x, x.lived(0), 8);
        x.mean(0, 3);
        Check.refused("none by mean()", x, x.lived(0), 8);
        x.live(0);
        x.mean(4, 2);
        x.live(-1);
        x.live(10000);
        x.back();
        x.live(0);
        Check.see(x, "");
        Check.feasts(x, "any;any;");
        Check.due("whatever came since: MISSED", x, x.lived(0), 1, 0);
        Check.due("whatever came since: MINUTES", x, x.lived(1), 7, 0);
        x.live(0);
        Check.due("the latest", x, x.lived(0), 2, 0);
        Check.due("the latest", x, x.lived(1), 0, 0);
    }

    private static void noFeasts() {
        JellyCathedral x = new JellyCathedral();
        Check.refused("none at first", x, x.live(0), 8);
        Check.refused("none at first", x, x.mean(0, 1), 8);
        Check.feasts(x, "go;");
        Check.refused("none by a FAULT", x, x.live(0), 8);
        x.feasts(1);
        Check.refused("none by 5", x, x.live(0), 8);
        Check.feasts(x, "stop;");
        Check.due("one STEP", x, x.live(0), 1, 0);
        Check.see(x, "heat");
        Check.due("as long as the SEE is there", x, x.live(0), 1, 0);
        Check.see(x, "heat 1;");
        Check.refused("none with a new SEE", x, x.live(0), 8);
        x.feasts(0);
        Check.due("FEASTS without a STEP", x, x.live(0), 0, 0);
        Check.due("are lived", x, x.lived(4), 0, 0);
        Check.due("have a mean", x, x.mean(0, 20), true, 0);
        Check.fraction("of no MOULDS", x, 0, 1);
    }

    private static void seeds() {
        JellyCathedral x = Check.ofSee(SEE);
        Check.feasts(x, "minute 1;");
        for (int seed : new int[] {0, 1, 9998, 9999}) {
            Check.due("seed " + seed, x, x.live(seed), 1, 0);
        }
        for (int seed : new int[] {-1, 10000, Integer.MIN_VALUE, Integer.MAX_VALUE}) {
            Check.refused("seed " + seed, x, x.live(seed), 5);
        }
        Check.due("nothing by these", 4, x.many(5));
    }

    // ---- draws

    private static int drawn(int s) {
        return (s * 2971 + 10867) % 65536;
    }

    /** All stand, none falls, ODDS 16: whom the first of each two draws names is TOUCHED. */
    private static void drawsOfMoulds() {
        for (int many = 1; many <= 5; many++) {
            StringBuilder see = new StringBuilder("heat 0;odds 16;stuff s sets 9 costs 1 stock 99;place p;");
            for (int i = 0; i < many; i++) {
                see.append("mould m").append((char) ('a' + i)).append(" high 9 holds 9 at p;");
            }
            JellyCathedral x = Check.ofSee(see.toString());
            for (int i = 0; i < many; i++) {
                x.pour(i, 0, 9);
            }
            x.minute(9);
            for (int i = 0; i < many; i++) {
                x.knock(i);
            }
            Check.feasts(x, "loop 40;any;end;");
            int[] firm = {81, 81, 81, 81, 81};
            for (int seed : new int[] {0, 9999, 4321}) {
                int s = seed;
                x.mark();
                int[] now = firm.clone();
                for (int i = 0; i < 40; i++) {
                    s = drawn(s);
                    now[s / 8 % many]--;
                    s = drawn(s);
                }
                Check.due("STEPS", x, x.live(seed), 41, 0);
                Check.due("none MISSED", x, x.lived(0), 0, 0);
                for (int i = 0; i < many; i++) {
                    Check.due("by seed " + seed + ", of " + many + " the mould " + i, now[i], x.mould(i, 4));
                }
                x.back();
            }
        }
    }

    /** One that stands: the second of each two draws tells whether it is below ODDS. */
    private static void drawsByOdds() {
        for (int odds = 0; odds <= 16; odds++) {
            JellyCathedral x = Check.ofSee("heat 0;odds " + odds + ";stuff s sets 9 costs 1;place p;mould m high 1 holds 9 at p;");
            x.pour(0, 0, 9);
            x.minute(9);
            x.knock(0);
            Check.feasts(x, "loop 60;any;end;");
            int s = 100 + odds;
            int touched = 0;
            for (int i = 0; i < 60; i++) {
                s = drawn(drawn(s));
                touched += s / 8 % 16 < odds ? 1 : 0;
            }
            Check.due("STEPS", x, x.live(100 + odds), 61, 0);
            Check.due("TOUCHED by ODDS " + odds, 81 - touched, x.mould(0, 4));
            Check.due("the others MISSED", x, x.lived(0), 60 - touched, 0);
        }
        // By seed 0 s is 10867, then what is left of 10867 x 2971 + 10867 by 65536, 53012: by 8 6626, by 16 2 is left.
        for (int odds = 2; odds <= 3; odds++) {
            JellyCathedral x = Check.ofSee("heat 0;odds " + odds + ";stuff s sets 9 costs 1;place p;mould m high 1 holds 9 at p;");
            x.pour(0, 0, 9);
            x.minute(9);
            x.knock(0);
            Check.feasts(x, "any;");
            x.live(0);
            Check.due("2 is below 3 alone", odds == 3 ? 80 : 81, x.mould(0, 4));
        }
    }

    /** A draw is made by every `any` that has MOULDS, TOUCHED or not, and by nothing else. */
    private static void noDraws() {
        String see = "heat 0;odds 9;stuff s sets 9 costs 1;place p;mould m high 1 holds 9 at p;mould n high 1 holds 9 at p;";
        String[] ahead = {"", "void n;", "touch n;", "minute 1;", "loop 3;heat 0;end;", "any;", "any;any;"};
        int[] draws = {0, 0, 0, 0, 0, 2, 4};
        for (int i = 0; i < ahead.length; i++) {
            JellyCathedral x = Check.ofSee(see);
            Check.feasts(x, ahead[i] + "pour m s 9;minute 9;knock m;loop 30;any;end;");
            x.live(77);
            int s = 77;
            for (int k = 0; k < draws[i]; k++) {
                s = drawn(s);
            }
            int firm = 81;
            for (int k = 0; k < 30; k++) {
                s = drawn(s);
                int who = s / 8 % 2;
                s = drawn(s);
                firm -= who == 0 && s / 8 % 16 < 9 ? 1 : 0;
            }
            Check.due("drawn behind " + ahead[i], firm, x.mould(0, 4));
        }
    }

    /** One life after another: nothing of the one ahead may be left, whatever it was cut off by. */
    private static void nothingOfThoseAhead() {
        JellyCathedral x = Check.ofSee(SEE);
        Check.feasts(x, "loop 99;loop 99;minute 1;end;end;");
        x.live(0);
        Check.due("left", x, x.lived(4), 1, 0);
        Check.feasts(x, "when at m p;when at n p;minute 1;end;end;");
        x.live(0);
        Check.due("none left", x, x.lived(4), 0, 0);
        Check.due("once", x, x.lived(1), 1, 0);
        Check.feasts(x, "loop 9;minute 1;stop;end;");
        x.live(0);
        Check.feasts(x, "when at m p;minute 1;end;loop 2;minute 1;end;");
        Check.due("once and twice", x, x.live(0), 5, 0);
        Check.due("once and twice", x, x.lived(1), 3, 0);
        Check.due("the same again", x, x.live(0), 5, 0);
        x = Check.ofSee("heat 0;odds 16;stuff s sets 9 costs 1;place p;mould m high 1 holds 1 at p;");
        x.pour(0, 0, 1);
        x.minute(1);
        x.knock(0);
        for (int round = 0; round < 3; round++) {
            Check.see(x, "odds 16;");
            Check.feasts(x, "any;");
            x.live(round);
            Check.due("without MOULDS, whatever stood ahead", x, x.lived(0), 1, 0);
        }
    }

    private static void means() {
        JellyCathedral x = Check.ofSee("heat 0;odds 8;stuff s sets 9 costs 1;place p;mould m high 1 holds 9 at p;mould n high 1 holds 2 at p;"
            + "mould o high 1 holds 1 at p;");
        x.pour(0, 0, 9);
        x.pour(1, 0, 1);
        x.minute(9);
        x.knock(0);
        Check.feasts(x, "loop 7;any;end;minute 1;");
        for (int many = 1; many <= 20; many++) {
            int sum = 0;
            for (int seed = 9980; seed < 9980 + many; seed++) {
                x.mark();
                x.live(seed);
                sum += x.mould(0, 4) + x.mould(1, 4) + x.mould(2, 4);
                x.back();
            }
            Check.due("mean of " + many, x, x.mean(9980, many), true, 0);
            Check.due("mean of " + many, (long) sum * x.bottom(), x.top() * many);
            Check.due("without a common divisor", 1, java.math.BigInteger.valueOf(x.top())
                .gcd(java.math.BigInteger.valueOf(x.bottom())).longValue());
            if (many % 2 == 0) {
                x = freshLike();
            }
        }
        long top = x.top();
        Check.refused("the last above 9,999", x, x.mean(9981, 20), 5);
        Check.refused("the last above 9,999", x, x.mean(9999, 2), 5);
        Check.refused("none", x, x.mean(0, 0), 5);
        Check.refused("21", x, x.mean(0, 21), 5);
        Check.due("the FRACTION stays", top, x.top());
        Check.due("the last is 9,999", x, x.mean(9980, 20), true, 0);
        Check.due("the last is 9,999", x, x.mean(9999, 1), true, 0);
        Check.due("all stays: MINUTE", 9, x.many(5));
        Check.due("all stays: firm", 81, x.mould(0, 4));
        Check.due("all stays: STANDS", 1, x.many(10));
    }

    private static JellyCathedral freshLike() {
        JellyCathedral x = Check.ofSee("heat 0;odds 8;stuff s sets 9 costs 1;place p;mould m high 1 holds 9 at p;mould n high 1 holds 2 at p;"
            + "mould o high 1 holds 1 at p;");
        x.pour(0, 0, 9);
        x.pour(1, 0, 1);
        x.minute(9);
        x.knock(0);
        Check.feasts(x, "loop 7;any;end;minute 1;");
        x.mean(0, 1);
        return x;
    }

    // ---- MARKS

    private static void marksInAll() {
        JellyCathedral x = new JellyCathedral();
        Check.refused("none at first", x, x.back(), 8);
        for (int round = 0; round < 3; round++) {
            for (int i = 1; i <= 3; i++) {
                Check.due("MARKS", x, x.mark(), i, 0);
                x.minute(1);
            }
            Check.refused("a fourth", x, x.mark(), 7);
            Check.refused("a fourth", x, x.mark(), 7);
            for (int i = 2; i >= 0; i--) {
                Check.due("left", x, x.back(), i, 0);
                Check.due("the latest", i, x.many(5));
            }
            Check.refused("none left", x, x.back(), 8);
            Check.due("nothing by that", 0, x.many(5));
        }
        // The refused fourth kept nothing.
        x.mark();
        x.minute(5);
        x.mark();
        x.mark();
        x.minute(5);
        x.mark();
        x.back();
        Check.due("the third", 5, x.many(5));
    }

    private static void whatAMarkKeeps() {
        JellyCathedral x = Check.ofSee(SEE);
        x.pour(0, 0, 9);
        x.minute(30);
        x.knock(0);
        x.pour(1, 0, 4);
        x.carry(1, 1);
        Check.feasts(x, "heat 1;");
        x.warm(7);
        x.rule(3);
        x.buy(1, 5);
        x.minute(1);
        x.mark();
        Check.feasts(x, "heat 2;heat 3;");
        x.warm(9);
        x.rule(9);
        x.buy(0, 9);
        x.buy(1, 9);
        x.minute(9);
        x.empty(1);
        x.pour(1, 1, 3);
        x.carry(1, 0);
        Check.due("fell", 1, x.many(7));
        Check.see(x, "place z;stuff y sets 1 costs 1;mould w high 30 holds 1 at z;");
        Check.due("0 left", x, x.back(), 0, 0);
        int[] many = {2, 3, 2, 7, 3, 31, 26, 0, 0, 2, 1};
        for (int w = 0; w < many.length; w++) {
            Check.due("many " + w, x, x.many(w), many[w], 0);
        }
        int[][] stuffs = {{9, 2, 5}, {0, 1, 7}};
        int[][] moulds = {{10, 9, 0, 2, 23, 81, 9, 0}, {9, 9, 1, 1, 2, 36, 4, 0}};
        for (int i = 0; i < 2; i++) {
            for (int w = 0; w < 3; w++) {
                Check.due("stuff " + i + " " + w, x, x.stuff(i, w), stuffs[i][w], 0);
            }
            for (int w = 0; w < 8; w++) {
                Check.due("mould " + i + " " + w, x, x.mould(i, w), moulds[i][w], 0);
            }
        }
        Check.due("part", x, x.part(1, 0), 4, 0);
        Check.due("part", x, x.part(1, 1), 0, 0);
        Check.due("walks", x, x.shaken(0, 1), 5, 0);
        Check.refused("walks", x, x.shaken(0, 2), 8);
        Check.due("FEASTS", x, x.live(0), 1, 0);
        Check.due("HEAT by them", 1, x.many(3));
        Check.due("NAMES", x, Check.feasts(x, "pour n t 1;carry m q;"), 2, 0);
        x.live(0);
        Check.due("of the same MOULD and STUFF", x, x.part(1, 1), 1, 0);
        Check.due("of the same PLACE", x, x.mould(0, 2), 1, 0);
        // How often one FELL is taken back, too.
        JellyCathedral z = Check.ofSee(SEE);
        for (int i = 0; i < 2; i++) {
            z.pour(0, 0, 9);
            z.knock(0);
            z.buy(0, 9);
        }
        z.mark();
        z.pour(0, 0, 9);
        z.knock(0);
        Check.due("FELL", 3, z.many(7));
        z.back();
        Check.due("FELL", 2, z.many(7));
        Check.due("FELL", 2, z.mould(0, 7));
        // No FEASTS, if there were none.
        JellyCathedral y = Check.ofSee(SEE);
        y.mark();
        Check.feasts(y, "any;");
        y.back();
        Check.refused("none", y, y.live(0), 8);
    }

    private static void whatAMarkLeaves() {
        JellyCathedral x = Check.ofSee(SEE);
        Check.feasts(x, "minute 4;");
        x.tray(0, 1, 2);
        x.mark();
        x.live(0);
        x.bubbles(1, 1);
        x.write(0, 1, 6);
        x.tray(1, 1, 1);
        Check.see(x, "heat 3;heat 4;");
        x.feed(0x68656174, 0x20343b20, 0x20202020, 0x20202020, 0x20202020);
        x.back();
        Check.due("TRAYS stay", x, x.read(0, 1), 6, 0);
        Check.due("TRAYS stay", x, x.read(1, 0), 0, 0);
        Check.fraction("the FRACTION stays", x, 1, 1);
        Check.due("lived() stays", x, x.lived(1), 4, 0);
        Check.due("the FAULT stays", 5, x.fault(0));
        Check.due("the FAULT stays", 7, x.fault(1));
        Check.due("the tape stays", x, x.see(8), 0, 0);
        Check.due("HEAT", 4, x.many(3));
    }
}
