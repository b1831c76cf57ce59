import java.nio.charset.StandardCharsets;

/** What the tests share: counting wrong answers, and feeding texts. */
final class Check {
    static final String SEE = "heat 2;odds 4;stuff agar sets 6 costs 5 stock 4;stuff milk sets 1 costs 1 stock 30;"
        + "stuff leaf sets 9 costs 9 stock 2;place kitchen;place close;place choir;walk kitchen close shakes 3;"
        + "walk close choir shakes 1;walk kitchen choir shakes 5;mould big high 10 holds 5 at kitchen;"
        + "mould low high 4 holds 3 at kitchen;";

    private static int wrong = 0;
    private static int asked = 0;

    private Check() {
    }

    static void due(String what, long want, long got) {
        asked++;
        if (got != want) {
            wrong++;
            if (wrong <= 60) {
                System.out.println(what + " answered " + got + ", due is " + want);
            }
        }
    }

    static void due(String what, boolean want, boolean got) {
        due(what, want ? 1 : 0, got ? 1 : 0);
    }

    static int wrongs() {
        return wrong;
    }

    /** An answer, and the STATUS that comes with it. */
    static void due(String what, JellyCathedral x, long got, long want, int status) {
        due(what, want, got);
        due(what + " status", status, x.status());
    }

    static void due(String what, JellyCathedral x, boolean got, boolean want, int status) {
        due(what, x, got ? 1 : 0, want ? 1 : 0, status);
    }

    /** NONE or false, and the STATUS that tells why. */
    static void refused(String what, JellyCathedral x, Object got, int status) {
        boolean none = got instanceof Boolean b ? !b : ((Number) got).longValue() == JellyCathedral.NONE;
        due(what + " gives NONE or false", true, none);
        due(what + " status", status, x.status());
    }

    static void fraction(String what, JellyCathedral x, long top, long bottom) {
        due(what + " top", top, x.top());
        due(what + " bottom", bottom, x.bottom());
    }

    static void feed(JellyCathedral x, byte[] bytes) {
        for (int i = 0; i < bytes.length; i += 20) {
            int[] five = new int[5];
            for (int k = 0; k < 20; k++) {
                int b = i + k < bytes.length ? bytes[i + k] & 255 : 32;
                five[k / 4] = five[k / 4] << 8 | b;
            }
            x.feed(five[0], five[1], five[2], five[3], five[4]);
        }
    }

    static byte[] bytes(String text) {
        return text.getBytes(StandardCharsets.ISO_8859_1);
    }

    static int see(JellyCathedral x, String text) {
        feed(x, bytes(text));
        return x.see(text.length());
    }

    static int feasts(JellyCathedral x, String text) {
        feed(x, bytes(text));
        return x.feasts(text.length());
    }

    static JellyCathedral ofSee(String text) {
        JellyCathedral x = new JellyCathedral();
        if (see(x, text) < 0) {
            due("see " + text, 0, x.fault(0) * 1000 + x.fault(1));
        }
        return x;
    }

    static void seeFault(String text, int kind, int place) {
        JellyCathedral x = ofSee(SEE);
        due("see " + text, x, see(x, text), -1, 10);
        due("fault of see " + text, kind, x.fault(0));
        due("place of see " + text, place, x.fault(1));
        due("old see behind " + text, 2, x.many(2));
    }

    static void feastsFault(String text, int kind, int place) {
        JellyCathedral x = ofSee(SEE);
        due("feasts " + text, x, feasts(x, text), -1, 10);
        due("fault of feasts " + text, kind, x.fault(0));
        due("place of feasts " + text, place, x.fault(1));
        due("no feasts behind " + text, x, x.live(0), -1, 8);
    }

    static void end() {
        System.out.println(asked + " answers looked at, " + wrong + " wrong");
        if (wrong != 0) {
            System.exit(1);
        }
    }
}
