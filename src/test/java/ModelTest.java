import java.lang.reflect.Method;
import java.util.ArrayList;
import java.util.List;
import java.util.Random;

/** Runs of calls by chance on the class and on the plain model beside each other. */
public final class ModelTest {
    private static final int RUNS = 1500;
    private static final int CALLS = 300;

    private final Random random;
    private final JellyCathedral x = new JellyCathedral();
    private final PlainModel model = new PlainModel();
    private final List<String> told = new ArrayList<>();
    private final int run;

    private ModelTest(int run) {
        this.run = run;
        random = new Random(run);
    }

    public static void main(String[] args) throws Exception {
        int runs = args.length > 0 ? Integer.parseInt(args[0]) : RUNS;
        for (int run = 0; run < runs && Check.wrongs() == 0; run++) {
            new ModelTest(run).go();
        }
        Check.end();
    }

    private void go() throws Exception {
        int calls = 0;
        text(true);
        while (calls++ < CALLS && Check.wrongs() == 0) {
            int kind = random.nextInt(100);
            if (kind < 2) {
                text(true);
            } else if (kind < 6) {
                text(false);
            } else if (kind < 10) {
                build();
            } else {
                call();
            }
        }
        if (Check.wrongs() > 0) {
            System.out.println("run " + run + ":");
            told.subList(Math.max(0, told.size() - 40), told.size()).forEach(System.out::println);
        }
    }

    // ---- calls

    private static final String[][] CALLED = {
        {"tray", "t4z"}, {"write", "tpv"}, {"read", "tp"}, {"decant", "tptpz"}, {"fault", "2"}, {"many", "z"},
        {"stuff", "s3"}, {"mould", "m8"}, {"part", "ms"}, {"copyFirm", "t"}, {"pour", "ms9"}, {"pour", "ms9"},
        {"pour", "ms3"}, {"pour", "ms3"}, {"pour", "ms2"}, {"empty", "m"}, {"knock", "m"}, {"knock", "m"},
        {"knock", "m"}, {"touch", "m"}, {"carry", "ml"}, {"minute", "3"}, {"minute", "9"}, {"minute", "h"},
        {"warm", "9"}, {"warm", "3"}, {"buy", "sh"}, {"rule", "g"}, {"firmIn", "mz"}, {"firmIn", "mh"}, {"lasts", "m"},
        {"waits", "mz"}, {"fallIn", ""}, {"mix", "mk"}, {"mixPart", "mks"}, {"strongest", "m"}, {"fillings", "m"},
        {"shaken", "ll"}, {"way", "ll5"}, {"reach", "m"}, {"fits", "mt3"}, {"fitsBy", "mt32"}, {"ask", "mt3"},
        {"game", "mm4"}, {"moveOf", "mm4"}, {"bubbles", "dd"}, {"poise", "m"}, {"live", "q"}, {"lived", "5"},
        {"mean", "qg"}, {"mark", ""}, {"back", ""}, {"write", "tpw"}, {"write", "tpw"}, {"live", "q"}};

    private long number(char sort) {
        if (random.nextInt(40) == 0) {
            int[] odd = {-1, -2, 100, 82, 300, 301, 9999, 10000, Integer.MAX_VALUE, Integer.MIN_VALUE, 61, 21, 13, 17};
            return odd[random.nextInt(odd.length)];
        }
        switch (sort) {
            case 't':
                return random.nextInt(4);
            case 'p':
                return random.nextInt(random.nextBoolean() ? 6 : 60);
            case 'z':
                return random.nextInt(12);
            case 'v':
                return random.nextLong();
            case 'w':
                return random.nextInt(12);
            case 's':
                return random.nextInt(Math.max(1, model.see.stuffs.size()));
            case 'm':
                return random.nextInt(Math.max(1, model.see.moulds.size()));
            case 'l':
                return random.nextInt(Math.max(1, model.see.places.size()));
            case 'h':
                return random.nextInt(101);
            case 'g':
                return random.nextInt(21);
            case 'k':
                return random.nextInt(82);
            case 'd':
                return random.nextInt(13);
            case 'q':
                return random.nextInt(10000);
            default:
                return random.nextInt(sort - '0' + 1);
        }
    }

    private void call() throws Exception {
        String[] what = CALLED[random.nextInt(CALLED.length)];
        long[] args = new long[what[1].length()];
        for (int k = 0; k < args.length; k++) {
            args[k] = number(what[1].charAt(k));
        }
        compare(what[0], args);
    }

    /** By chance alone few would ever stand. */
    private void build() throws Exception {
        long mould = number('m');
        if (random.nextInt(3) == 0) {
            compare("warm", random.nextInt(3));
        }
        for (int i = 0; i < 4; i++) {
            compare("pour", mould, number('s'), 1 + random.nextInt(3));
            compare("pour", mould, number('s'), 1);
        }
        compare("minute", 1 + random.nextInt(9));
        compare("waits", mould, random.nextInt(random.nextBoolean() ? 5 : 100));
        compare("lasts", mould);
        compare("knock", mould);
        String[] then = {"touch", "reach", "poise", "lasts", "fallIn", "waits", "carry", "firmIn"};
        for (int i = 0; i < 3; i++) {
            String name = then[random.nextInt(then.length)];
            if (name.equals("carry")) {
                compare(name, mould, number('l'));
            } else if (name.equals("fallIn")) {
                compare(name);
            } else if (name.equals("waits") || name.equals("firmIn")) {
                compare(name, mould, random.nextInt(12));
            } else {
                compare(name, mould);
            }
        }
    }

    private void compare(String name, long... args) throws Exception {
        StringBuilder line = new StringBuilder(name);
        for (long a : args) {
            line.append(' ').append(name.equals("write") ? a : (int) a);
        }
        long want = model.call(name, args);
        long got = real(name, args);
        told.add(line + " -> " + got);
        String where = "run " + run + ": " + line;
        Check.due(where, want, got);
        Check.due(where + " status", model.status, x.status());
        Check.due(where + " top", model.top.longValueExact(), x.top());
        Check.due(where + " bottom", model.bottom.longValueExact(), x.bottom());
        Check.due(where + " fault", model.fault, x.fault(0));
        Check.due(where + " place", model.faultPlace, x.fault(1));
    }

    private long real(String name, long[] args) throws Exception {
        for (Method m : JellyCathedral.class.getDeclaredMethods()) {
            if (m.getName().equals(name)) {
                Object[] boxed = new Object[args.length];
                for (int k = 0; k < args.length; k++) {
                    if (m.getParameterTypes()[k] == long.class) {
                        boxed[k] = args[k];
                    } else {
                        boxed[k] = (int) args[k];
                    }
                }
                Object got = m.invoke(x, boxed);
                return got instanceof Boolean b ? (b ? 1 : 0) : ((Number) got).longValue();
            }
        }
        throw new IllegalStateException(name);
    }

    // ---- texts

    private void text(boolean isSee) throws Exception {
        String text = isSee ? seeText() : feastsText();
        if (random.nextInt(4) == 0) {
            text = spoilt(text);
        }
        told.add(text);
        int at = 0;
        while (at < text.length()) {
            String twenty = (text.substring(at) + "                    ").substring(0, 20);
            int[] five = new int[5];
            for (int k = 0; k < 20; k++) {
                five[k / 4] = five[k / 4] << 8 | twenty.charAt(k) & 255;
            }
            Check.due("feed", model.feed(twenty), x.feed(five[0], five[1], five[2], five[3], five[4]));
            at += 20;
        }
        compare(isSee ? "see" : "feasts", random.nextInt(30) == 0 ? random.nextInt(400) - 1 : text.length());
        if (random.nextInt(3) == 0) {
            compare(isSee ? "many" : "live", 2);
        }
    }

    private String spoilt(String text) {
        StringBuilder b = new StringBuilder(text);
        int times = 1 + random.nextInt(2);
        for (int i = 0; i < times && b.length() > 0; i++) {
            int at = random.nextInt(b.length());
            switch (random.nextInt(5)) {
                case 0:
                    b.deleteCharAt(at);
                    break;
                case 1:
                    b.insert(at, "0123456789abz;<>= \n\tA".charAt(random.nextInt(21)));
                    break;
                case 2:
                    b.setCharAt(at, (char) random.nextInt(256));
                    break;
                case 3:
                    String[] words = ("heat odds stuff sets costs stock place walk shakes mould high holds at pour void "
                        + "knock touch carry minute any when stands firm loop end stop ; ; < > = 0 1 99999").split(" ");
                    b.insert(at, " " + words[random.nextInt(words.length)] + " ");
                    break;
                default:
                    b.setLength(at);
                    break;
            }
        }
        return b.length() > 900 ? b.substring(0, 900) : b.toString();
    }

    private int upTo(int least, int most) {
        if (random.nextInt(150) == 0) {
            return random.nextBoolean() ? most + 1 : Math.max(0, least - 1);
        }
        return least + random.nextInt(most - least + 1);
    }

    private String name(char first, int i) {
        return first + (random.nextInt(300) == 0 ? "x" : "") + (char) ('a' + i);
    }

    private String seeText() {
        int stuffs = random.nextInt(6);
        int places = 1 + random.nextInt(6);
        int walks = random.nextInt(11);
        int moulds = random.nextInt(8) == 0 ? 0 : 1 + random.nextInt(5);
        StringBuilder b = new StringBuilder();
        if (random.nextInt(4) != 0) {
            b.append("heat ").append(upTo(0, 9)).append(";");
        }
        if (random.nextInt(20) == 0) {
            stuffs++;
        }
        for (int i = 0; i < stuffs; i++) {
            b.append("stuff ").append(name('s', i)).append(" sets ").append(upTo(0, 9)).append(" costs ")
                .append(upTo(0, random.nextBoolean() ? 3 : 99));
            if (random.nextInt(3) != 0) {
                b.append(" stock ").append(upTo(0, random.nextBoolean() ? 9 : 99));
            }
            b.append(";");
        }
        for (int i = 0; i < places; i++) {
            b.append("place ").append(name('p', i)).append(random.nextInt(3) == 0 ? ";\n" : ";");
        }
        if (random.nextInt(20) == 0) {
            walks = 11;
        }
        for (int i = 0; i < walks && places > 1; i++) {
            int from = random.nextInt(places);
            int to = random.nextInt(60) == 0 ? from : (from + 1 + random.nextInt(places - 1)) % places;
            b.append("walk ").append(name('p', from)).append(' ').append(name('p', to)).append(" shakes ")
                .append(upTo(0, random.nextBoolean() ? 2 : 9)).append(";");
        }
        for (int i = 0; i < moulds; i++) {
            b.append("mould ").append(name('m', i)).append(" high ").append(upTo(1, random.nextInt(3) == 0 ? 30 : 12))
                .append(" holds ").append(upTo(1, random.nextBoolean() ? 4 : 9)).append(" at ")
                .append(name('p', random.nextInt(places))).append(";");
        }
        if (random.nextInt(3) != 0) {
            b.append("odds ").append(upTo(0, 16)).append(";");
        }
        return b.length() > 900 ? b.substring(0, 900) : b.toString();
    }

    private String feastsText() {
        StringBuilder b = new StringBuilder();
        int open = 0;
        int steps = random.nextInt(10) == 0 ? 31 : random.nextInt(16);
        for (int i = 0; i < steps && b.length() < 260; i++) {
            int kind = random.nextInt(16);
            if (kind >= 14 && open > 0) {
                b.append("end;");
                open--;
            } else if (kind >= 11 && (open < 3 || random.nextInt(30) == 0)) {
                b.append(random.nextBoolean() ? "loop " + upTo(1, random.nextBoolean() ? 4 : 99)
                    : "when " + test()).append(";");
                open++;
            } else {
                b.append(step(kind)).append(random.nextInt(4) == 0 ? "; " : ";");
            }
        }
        while (open-- > 0) {
            b.append("end;");
        }
        return b.length() > 300 ? b.substring(0, 300) : b.toString();
    }

    private String aMould() {
        return random.nextInt(60) == 0 ? "pa" : name('m', (int) number('m') & 7);
    }

    private String aPlace() {
        return random.nextInt(60) == 0 ? "ma" : name('p', (int) number('l') & 7);
    }

    private String test() {
        int kind = random.nextInt(3);
        if (kind == 0) {
            return "stands " + aMould();
        }
        return kind == 1 ? "at " + aMould() + " " + aPlace()
            : "firm " + aMould() + "<>=".charAt(random.nextInt(3)) + upTo(0, random.nextBoolean() ? 9 : 99);
    }

    private String step(int kind) {
        switch (kind) {
            case 0:
            case 1:
            case 2:
                return "pour " + aMould() + " " + name('s', (int) number('s') & 7) + " "
                    + upTo(1, random.nextBoolean() ? 2 : 9);
            case 3:
                return "void " + aMould();
            case 4:
            case 5:
                return "knock " + aMould();
            case 6:
                return "touch " + aMould();
            case 7:
                return "carry " + aMould() + " " + aPlace();
            case 8:
                return "minute " + upTo(1, random.nextBoolean() ? 5 : 60);
            case 9:
                return "heat " + upTo(0, 9);
            case 10:
                return random.nextInt(12) == 0 ? "stop" : "any";
            default:
                return "any";
        }
    }
}
