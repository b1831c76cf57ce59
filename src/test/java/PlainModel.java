import java.math.BigInteger;
import java.util.ArrayDeque;
import java.util.ArrayList;
import java.util.Arrays;
import java.util.Deque;
import java.util.HashSet;
import java.util.List;
import java.util.Set;
import java.util.regex.Matcher;
import java.util.regex.Pattern;

/** The document again, written as plainly as can be and without any thrift, to hold the class against. */
final class PlainModel {
    static final class Refused extends RuntimeException {
        private static final long serialVersionUID = 1L;
        final int why;

        Refused(int why) {
            super("status " + why, null, false, false);
            this.why = why;
        }
    }

    static final class Fault extends RuntimeException {
        private static final long serialVersionUID = 1L;
        final int kind;
        final int place;

        Fault(int kind, int place) {
            super("fault " + kind, null, false, false);
            this.kind = kind;
            this.place = place;
        }
    }

    static final class Stopped extends RuntimeException {
        private static final long serialVersionUID = 1L;
        final boolean left;

        Stopped(boolean left) {
            super("stopped", null, false, false);
            this.left = left;
        }
    }

    static final class Stuff {
        String name;
        int set;
        int cost;
        int stock = 20;
    }

    static final class Mould {
        String name;
        int height;
        int room;
        int at;
        List<Integer> in = new ArrayList<>();
        boolean stands;
        int firm;
        int fell;

        int state() {
            return stands ? 2 : in.isEmpty() ? 0 : 1;
        }

        boolean full() {
            return in.size() == room;
        }
    }

    static final class Step {
        String word;
        int first;
        int second;
        int number;
        String test = "";
        String compare = "";
        List<Step> body = new ArrayList<>();
    }

    static final class See {
        int heat = 3;
        int odds = 2;
        int minute;
        int spent;
        List<Stuff> stuffs = new ArrayList<>();
        List<String> places = new ArrayList<>();
        List<int[]> walks = new ArrayList<>();
        List<Mould> moulds = new ArrayList<>();
        List<Step> feasts;

        See copy() {
            See c = new See();
            c.heat = heat;
            c.odds = odds;
            c.minute = minute;
            c.spent = spent;
            for (Stuff s : stuffs) {
                Stuff t = new Stuff();
                t.name = s.name;
                t.set = s.set;
                t.cost = s.cost;
                t.stock = s.stock;
                c.stuffs.add(t);
            }
            c.places.addAll(places);
            c.walks.addAll(walks);
            for (Mould m : moulds) {
                Mould n = new Mould();
                n.name = m.name;
                n.height = m.height;
                n.room = m.room;
                n.at = m.at;
                n.in.addAll(m.in);
                n.stands = m.stands;
                n.firm = m.firm;
                n.fell = m.fell;
                c.moulds.add(n);
            }
            c.feasts = feasts;
            return c;
        }

        int strength(Mould m) {
            int sum = 0;
            for (int s : m.in) {
                sum += stuffs.get(s).set;
            }
            return sum;
        }

        void fallIfWeak(Mould m) {
            if (m.stands && m.firm < m.height) {
                clear(m);
                m.fell++;
            }
        }

        void clear(Mould m) {
            m.in.clear();
            m.stands = false;
            m.firm = 0;
        }

        void pour(int mould, int stuff, int parts) {
            Mould m = moulds.get(mould);
            Stuff s = stuffs.get(stuff);
            if (m.stands || s.stock < parts || m.in.size() + parts > m.room) {
                throw new Refused(9);
            }
            for (int i = 0; i < parts; i++) {
                m.in.add(stuff);
                s.stock--;
                spent += s.cost;
            }
            m.firm = 0;
        }

        int empty(int mould) {
            Mould m = moulds.get(mould);
            int had = m.in.size();
            if (had == 0) {
                throw new Refused(9);
            }
            clear(m);
            return had;
        }

        int knock(int mould) {
            Mould m = moulds.get(mould);
            if (m.state() != 1 || !m.full()) {
                throw new Refused(9);
            }
            m.stands = true;
            fallIfWeak(m);
            return m.stands ? 1 : 0;
        }

        int touch(int mould) {
            Mould m = moulds.get(mould);
            if (!m.stands) {
                throw new Refused(9);
            }
            m.firm -= m.height > 9 ? 2 : 1;
            fallIfWeak(m);
            return m.firm;
        }

        int carry(int mould, int place) {
            Mould m = moulds.get(mould);
            List<Integer> way = way(m.at, place);
            if (way == null) {
                throw new Refused(8);
            }
            if (m.at == place) {
                throw new Refused(9);
            }
            int shaken = shaken(way);
            m.at = place;
            if (m.stands) {
                m.firm -= shaken;
                fallIfWeak(m);
            }
            return shaken;
        }

        int fellInAll() {
            int sum = 0;
            for (Mould m : moulds) {
                sum += m.fell;
            }
            return sum;
        }

        void oneMinute() {
            for (Mould m : moulds) {
                if (m.state() == 1) {
                    m.firm = Math.min(strength(m), m.firm + 9 - heat);
                } else if (m.stands) {
                    m.firm -= heat;
                    fallIfWeak(m);
                }
            }
            minute++;
        }

        int minutes(int many) {
            if (minute + many > 9999) {
                throw new Refused(7);
            }
            int before = fellInAll();
            for (int i = 0; i < many; i++) {
                oneMinute();
            }
            return fellInAll() - before;
        }

        int warm(int to) {
            if (heat == to) {
                throw new Refused(9);
            }
            int was = heat;
            heat = to;
            return was;
        }

        int walkOf(int a, int b) {
            int least = 99;
            for (int[] w : walks) {
                if (w[0] == a && w[1] == b || w[0] == b && w[1] == a) {
                    least = Math.min(least, w[2]);
                }
            }
            return least;
        }

        int shaken(List<Integer> way) {
            int sum = 0;
            for (int i = 1; i < way.size(); i++) {
                sum += walkOf(way.get(i - 1), way.get(i));
            }
            return sum;
        }

        /** The best of all ways that come to no place twice. */
        List<Integer> way(int from, int to) {
            List<List<Integer>> all = new ArrayList<>();
            List<Integer> begun = new ArrayList<>();
            begun.add(from);
            allWays(begun, to, all);
            List<Integer> best = null;
            for (List<Integer> w : all) {
                if (best == null || isBetter(w, best)) {
                    best = w;
                }
            }
            return best;
        }

        private void allWays(List<Integer> begun, int to, List<List<Integer>> all) {
            int last = begun.get(begun.size() - 1);
            if (last == to) {
                all.add(new ArrayList<>(begun));
                return;
            }
            for (int p = 0; p < places.size(); p++) {
                if (walkOf(last, p) < 99 && !begun.contains(p)) {
                    begun.add(p);
                    allWays(begun, to, all);
                    begun.remove(begun.size() - 1);
                }
            }
        }

        private boolean isBetter(List<Integer> a, List<Integer> b) {
            if (shaken(a) != shaken(b)) {
                return shaken(a) < shaken(b);
            }
            if (a.size() != b.size()) {
                return a.size() < b.size();
            }
            for (int i = 0; i < a.size(); i++) {
                if (!a.get(i).equals(b.get(i))) {
                    return a.get(i) < b.get(i);
                }
            }
            return false;
        }
    }

    // ---- tokens

    static final class Token {
        final String text;
        final int at;

        Token(String text, int at) {
            this.text = text;
            this.at = at;
        }

        boolean isWord() {
            return text.matches("[a-z]+");
        }
    }

    private static final Set<String> KEPT = new HashSet<>(Arrays.asList(("heat odds stuff sets costs stock place walk "
        + "shakes mould high holds at pour void knock touch carry minute any when stands firm loop end stop").split(" ")));
    private static final Pattern TOKEN = Pattern.compile("[\\n ]*(?:([a-z]+|[0-9]+|[;<>=])|(.)|$)", Pattern.DOTALL);

    static final class Reader {
        final String all;
        final See see;
        int pos;
        Token now;
        int steps;

        Reader(String all, See see) {
            this.all = all;
            this.see = see;
        }

        /** The next token, not yet taken; a null text is the end. */
        Token look() {
            if (now == null) {
                Matcher m = TOKEN.matcher(all);
                m.region(pos, all.length());
                if (!m.lookingAt() || m.group(1) == null && m.group(2) == null) {
                    now = new Token(null, all.length());
                } else if (m.group(2) != null || m.group(1).matches("[0-9]{5,}")) {
                    throw new Fault(1, m.group(2) != null ? m.start(2) : m.start(1));
                } else {
                    now = new Token(m.group(1), m.start(1));
                    pos = m.end();
                }
            }
            return now;
        }

        boolean is(String text) {
            return text.equals(look().text);
        }

        void wrong(int kind) {
            throw new Fault(kind, look().at);
        }

        void take(String text) {
            if (!is(text)) {
                wrong(2);
            }
            now = null;
        }

        int number(int least, int most) {
            Token t = look();
            if (t.text == null || !t.text.matches("[0-9]+")) {
                wrong(2);
            }
            int v = Integer.parseInt(t.text);
            if (v < least || v > most) {
                wrong(4);
            }
            now = null;
            return v;
        }

        int number(String word, int least, int most) {
            take(word);
            return number(least, most);
        }

        String lookName() {
            Token t = look();
            if (t.text == null || !t.isWord() || KEPT.contains(t.text) || t.text.length() > 8) {
                wrong(2);
            }
            return t.text;
        }

        int stuffOf(String name) {
            for (int i = 0; i < see.stuffs.size(); i++) {
                if (see.stuffs.get(i).name.equals(name)) {
                    return i;
                }
            }
            return -1;
        }

        int mouldOf(String name) {
            for (int i = 0; i < see.moulds.size(); i++) {
                if (see.moulds.get(i).name.equals(name)) {
                    return i;
                }
            }
            return -1;
        }

        int old(char kind) {
            String name = lookName();
            int i = kind == 's' ? stuffOf(name) : kind == 'm' ? mouldOf(name) : see.places.indexOf(name);
            if (i < 0) {
                wrong(3);
            }
            now = null;
            return i;
        }

        String fresh() {
            String name = lookName();
            if (stuffOf(name) >= 0 || mouldOf(name) >= 0 || see.places.contains(name)) {
                wrong(3);
            }
            now = null;
            return name;
        }

        void readSee() {
            boolean heat = false;
            boolean odds = false;
            while (look().text != null) {
                if (is("heat")) {
                    if (heat) {
                        wrong(5);
                    }
                    heat = true;
                    see.heat = number("heat", 0, 9);
                } else if (is("odds")) {
                    if (odds) {
                        wrong(5);
                    }
                    odds = true;
                    see.odds = number("odds", 0, 16);
                } else if (is("stuff")) {
                    readStuff();
                } else if (is("place")) {
                    if (see.places.size() == 6) {
                        wrong(6);
                    }
                    take("place");
                    see.places.add(fresh());
                } else if (is("walk")) {
                    readWalk();
                } else if (is("mould")) {
                    readMould();
                } else {
                    wrong(2);
                }
                take(";");
            }
        }

        private void readStuff() {
            if (see.stuffs.size() == 5) {
                wrong(6);
            }
            take("stuff");
            Stuff s = new Stuff();
            s.name = fresh();
            s.set = number("sets", 0, 9);
            s.cost = number("costs", 0, 99);
            if (is("stock")) {
                s.stock = number("stock", 0, 99);
            }
            see.stuffs.add(s);
        }

        private void readWalk() {
            if (see.walks.size() == 10) {
                wrong(6);
            }
            take("walk");
            int a = old('p');
            Token second = look();
            int b = old('p');
            if (a == b) {
                throw new Fault(5, second.at);
            }
            see.walks.add(new int[] {a, b, number("shakes", 0, 9)});
        }

        private void readMould() {
            if (see.moulds.size() == 5) {
                wrong(6);
            }
            take("mould");
            Mould m = new Mould();
            m.name = fresh();
            m.height = number("high", 1, 30);
            m.room = number("holds", 1, 9);
            take("at");
            m.at = old('p');
            see.moulds.add(m);
        }

        List<Step> readSteps(int within) {
            List<Step> out = new ArrayList<>();
            while (look().text != null && !is("end")) {
                Step s = new Step();
                s.word = look().text;
                if (!Arrays.asList("pour", "void", "knock", "touch", "carry", "minute", "heat", "any", "when", "loop",
                    "stop").contains(s.word)) {
                    wrong(2);
                }
                if (steps == 30) {
                    wrong(6);
                }
                boolean opens = is("when") || is("loop");
                if (opens && within == 3) {
                    wrong(7);
                }
                steps++;
                now = null;
                readRest(s);
                take(";");
                if (opens) {
                    s.body = readSteps(within + 1);
                    take("end");
                    take(";");
                }
                out.add(s);
            }
            return out;
        }

        private void readRest(Step s) {
            switch (s.word) {
                case "pour" -> {
                    s.first = old('m');
                    s.second = old('s');
                    s.number = number(1, 9);
                }
                case "void", "knock", "touch" -> s.first = old('m');
                case "carry" -> {
                    s.first = old('m');
                    s.second = old('p');
                }
                case "minute" -> s.number = number(1, 60);
                case "heat" -> s.number = number(0, 9);
                case "loop" -> s.number = number(1, 99);
                case "when" -> readTest(s);
                default -> { }
            }
        }

        private void readTest(Step s) {
            if (is("stands")) {
                take("stands");
                s.test = "stands";
                s.first = old('m');
            } else if (is("firm")) {
                take("firm");
                s.test = "firm";
                s.first = old('m');
                if (!is("<") && !is(">") && !is("=")) {
                    wrong(2);
                }
                s.compare = look().text;
                now = null;
                s.number = number(0, 99);
            } else {
                take("at");
                s.test = "at";
                s.first = old('m');
                s.second = old('p');
            }
        }
    }

    // ---- the feasts

    static final class Life {
        final See see;
        int s;
        int steps;
        int missed;
        boolean left;

        Life(See see, int seed) {
            this.see = see;
            s = seed;
            try {
                all(see.feasts);
            } catch (Stopped e) {
                left = e.left;
            }
        }

        int draw(int n) {
            s = (s * 2971 + 10867) % 65536;
            return s / 8 % n;
        }

        void all(List<Step> list) {
            for (Step one : list) {
                if (steps == 300) {
                    throw new Stopped(true);
                }
                steps++;
                one(one);
            }
        }

        void one(Step t) {
            if (t.word.equals("stop")) {
                throw new Stopped(false);
            } else if (t.word.equals("loop")) {
                for (int i = 0; i < t.number; i++) {
                    all(t.body);
                }
            } else if (t.word.equals("when")) {
                if (holds(t)) {
                    all(t.body);
                }
            } else {
                try {
                    act(t);
                } catch (Refused e) {
                    missed++;
                }
            }
        }

        boolean holds(Step t) {
            Mould m = see.moulds.get(t.first);
            return switch (t.test + t.compare) {
                case "stands" -> m.stands;
                case "at" -> m.at == t.second;
                case "firm<" -> m.firm < t.number;
                case "firm>" -> m.firm > t.number;
                default -> m.firm == t.number;
            };
        }

        void act(Step t) {
            switch (t.word) {
                case "pour" -> see.pour(t.first, t.second, t.number);
                case "void" -> see.empty(t.first);
                case "knock" -> see.knock(t.first);
                case "touch" -> see.touch(t.first);
                case "carry" -> see.carry(t.first, t.second);
                case "minute" -> see.minutes(t.number);
                case "heat" -> see.warm(t.number);
                default -> {
                    if (see.moulds.isEmpty()) {
                        throw new Refused(9);
                    }
                    int m = draw(see.moulds.size());
                    int d = draw(16);
                    if (d >= see.odds) {
                        throw new Refused(9);
                    }
                    see.touch(m);
                }
            }
        }
    }

    // ---- the face

    int status;
    BigInteger top = BigInteger.ZERO;
    BigInteger bottom = BigInteger.ONE;
    int fault = -1;
    int faultPlace = -1;
    See see = new See();
    StringBuilder tape = new StringBuilder();
    long[][] trays = new long[4][];
    int[] sorts = new int[4];
    int[] lived;
    Deque<See> marks = new ArrayDeque<>();

    private static void refuseIf(boolean bad, int why) {
        if (bad) {
            throw new Refused(why);
        }
    }

    private Mould needMould(int m) {
        refuseIf(m < 0 || m >= see.moulds.size(), 2);
        return see.moulds.get(m);
    }

    private Stuff needStuff(int s) {
        refuseIf(s < 0 || s >= see.stuffs.size(), 2);
        return see.stuffs.get(s);
    }

    private void needPlace(int p) {
        refuseIf(p < 0 || p >= see.places.size(), 2);
    }

    private static void need(long v, long least, long most) {
        refuseIf(v < least || v > most, 5);
    }

    int feed(String twenty) {
        if (tape.length() + twenty.length() > 900) {
            return -1;
        }
        tape.append(twenty);
        return tape.length();
    }

    /** One call by its name; the answer, a boolean as 1 or 0. */
    long call(String name, long... a) {
        int[] i = new int[a.length];
        for (int k = 0; k < a.length; k++) {
            i[k] = (int) a[k];
        }
        try {
            long got = answer(name, i, a);
            if (!name.equals("fault")) {
                status = 0;
            }
            return got;
        } catch (Refused e) {
            status = e.why;
            return Arrays.asList("tray", "write", "decant", "rule", "bubbles", "poise", "mean").contains(name) ? 0 : -1;
        }
    }

    private long answer(String name, int[] i, long[] a) {
        switch (name) {
            case "tray":
                refuseIf(i[0] < 0 || i[0] > 3 || i[1] < 0 || i[1] > 3, 1);
                refuseIf(i[2] > 60, 5);
                refuseIf(i[2] < 0, 6);
                trays[i[0]] = new long[i[2]];
                sorts[i[0]] = i[1];
                return 1;
            case "write":
                needSpot(i[0], i[1]);
                trays[i[0]][i[1]] = a[2] << 64 - (8 << sorts[i[0]]) >> 64 - (8 << sorts[i[0]]);
                return 1;
            case "read":
                needSpot(i[0], i[1]);
                return trays[i[0]][i[1]];
            case "decant":
                return decant(i);
            case "see":
                return text(i[0], 900, true);
            case "feasts":
                return text(i[0], 300, false);
            case "fault":
                return i[0] == 0 ? fault : i[0] == 1 ? faultPlace : -1;
            case "many":
                return many(i[0]);
            case "stuff":
                Stuff s = needStuff(i[0]);
                need(i[1], 0, 2);
                return new int[] {s.set, s.cost, s.stock}[i[1]];
            case "mould":
                Mould m = needMould(i[0]);
                need(i[1], 0, 7);
                return new int[] {m.height, m.room, m.at, m.state(), m.firm, see.strength(m), m.in.size(), m.fell}[i[1]];
            case "part":
                needMould(i[0]);
                needStuff(i[1]);
                return see.moulds.get(i[0]).in.stream().filter(p -> p == i[1]).count();
            case "copyFirm":
                needTray(i[0]);
                refuseIf(trays[i[0]].length < see.moulds.size(), 4);
                for (int k = 0; k < see.moulds.size(); k++) {
                    trays[i[0]][k] = see.moulds.get(k).firm;
                }
                return see.moulds.size();
            default:
                return deed(name, i);
        }
    }

    private void needTray(int t) {
        refuseIf(t < 0 || t > 3, 1);
        refuseIf(trays[t] == null, 3);
    }

    private void needSpot(int t, int p) {
        needTray(t);
        refuseIf(p < 0 || p >= trays[t].length, 4);
    }

    private long decant(int[] i) {
        refuseIf(i[0] < 0 || i[0] > 3 || i[2] < 0 || i[2] > 3, 1);
        refuseIf(trays[i[0]] == null || trays[i[2]] == null, 3);
        refuseIf(sorts[i[0]] != sorts[i[2]], 11);
        refuseIf(i[4] < 0, 6);
        refuseIf(i[1] < 0 || i[3] < 0 || (long) i[1] + i[4] > trays[i[0]].length
            || (long) i[3] + i[4] > trays[i[2]].length, 4);
        long[] old = trays[i[0]].clone();
        for (int k = 0; k < i[4]; k++) {
            trays[i[2]][i[3] + k] = old[i[1] + k];
        }
        return 1;
    }

    private long text(int n, int most, boolean isSee) {
        refuseIf(n < 0 || n > tape.length() || n > most, 5);
        String all = tape.substring(0, n);
        tape.setLength(0);
        try {
            fault = 0;
            faultPlace = -1;
            if (isSee) {
                See next = new See();
                new Reader(all, next).readSee();
                see = next;
                return see.moulds.size();
            }
            Reader r = new Reader(all, see);
            List<Step> steps = r.readSteps(0);
            if (r.look().text != null) {
                r.wrong(2);
            }
            see.feasts = steps;
            return r.steps;
        } catch (Fault e) {
            fault = e.kind;
            faultPlace = e.place;
            throw new Refused(10);
        }
    }

    private long many(int what) {
        need(what, 0, 10);
        if (what >= 8) {
            int set = 0;
            for (int m = 0; m < see.moulds.size(); m++) {
                set += see.moulds.get(m).state() == what - 8 ? 1 << m : 0;
            }
            return set;
        }
        return new int[] {see.stuffs.size(), see.places.size(), see.moulds.size(), see.heat, see.odds, see.minute,
            see.spent, see.fellInAll()}[what];
    }

    private long deed(String name, int[] i) {
        switch (name) {
            case "pour":
                needMould(i[0]);
                needStuff(i[1]);
                need(i[2], 1, 9);
                see.pour(i[0], i[1], i[2]);
                return see.moulds.get(i[0]).in.size();
            case "empty":
                needMould(i[0]);
                return see.empty(i[0]);
            case "knock":
                needMould(i[0]);
                return see.knock(i[0]);
            case "touch":
                needMould(i[0]);
                return see.touch(i[0]);
            case "carry":
                needMould(i[0]);
                needPlace(i[1]);
                return see.carry(i[0], i[1]);
            case "minute":
                need(i[0], 1, 99);
                return see.minutes(i[0]);
            case "warm":
                need(i[0], 0, 9);
                return see.warm(i[0]);
            case "buy":
                Stuff s = needStuff(i[0]);
                need(i[1], 1, 99);
                refuseIf(s.stock + i[1] > 999, 7);
                s.stock += i[1];
                return s.stock;
            case "rule":
                need(i[0], 0, 16);
                see.odds = i[0];
                return 1;
            default:
                return ahead(name, i);
        }
    }

    private long ahead(String name, int[] i) {
        See c = see.copy();
        c.minute = 0;
        switch (name) {
            case "firmIn":
                needMould(i[0]);
                need(i[1], 0, 300);
                c.minutes(i[1]);
                return c.moulds.get(i[0]).firm;
            case "lasts":
                needMould(i[0]);
                Mould m = c.moulds.get(i[0]);
                refuseIf(m.in.isEmpty() || !m.stands && !m.full(), 9);
                if (!m.stands) {
                    c.knock(i[0]);
                }
                return minutesTillFallen(c, m);
            case "waits":
                needMould(i[0]);
                need(i[1], 0, 99);
                refuseIf(c.moulds.get(i[0]).state() != 1 || !c.moulds.get(i[0]).full(), 9);
                return waits(c, i[0], i[1]);
            case "fallIn":
                for (int n = 0; n <= 300; n++) {
                    if (c.moulds.stream().noneMatch(o -> o.stands)) {
                        return n;
                    }
                    c.oneMinute();
                }
                throw new Refused(8);
            default:
                return search(name, i);
        }
    }

    private static long minutesTillFallen(See c, Mould m) {
        for (int n = 0; n <= 1000; n++) {
            if (!m.stands) {
                return n;
            }
            c.oneMinute();
        }
        throw new Refused(8);
    }

    private static long waits(See c, int mould, int n) {
        for (int w = 0; w <= 300; w++) {
            See d = c.copy();
            d.knock(mould);
            int stood = 0;
            while (stood <= n && d.moulds.get(mould).stands) {
                d.oneMinute();
                stood++;
            }
            if (stood > n) {
                return w;
            }
            c.oneMinute();
        }
        throw new Refused(8);
    }

    private void fill(List<int[]> out, int[] parts, int stuff, int left, boolean byStock) {
        if (stuff == parts.length) {
            if (left == 0) {
                out.add(parts.clone());
            }
            return;
        }
        for (int n = 0; n <= left && (!byStock || n <= see.stuffs.get(stuff).stock); n++) {
            parts[stuff] = n;
            fill(out, parts, stuff + 1, left - n, byStock);
            parts[stuff] = 0;
        }
    }

    private List<int[]> fillings(Mould m, boolean byStock) {
        List<int[]> out = new ArrayList<>();
        fill(out, new int[see.stuffs.size()], 0, m.room, byStock);
        return out;
    }

    private int strengthOf(int[] parts) {
        int sum = 0;
        for (int s = 0; s < parts.length; s++) {
            sum += parts[s] * see.stuffs.get(s).set;
        }
        return sum;
    }

    private int costOf(int[] parts) {
        int sum = 0;
        for (int s = 0; s < parts.length; s++) {
            sum += parts[s] * see.stuffs.get(s).cost;
        }
        return sum;
    }

    private int[] mixOf(Mould m, int k) {
        int[] best = null;
        for (int[] p : fillings(m, true)) {
            if (strengthOf(p) >= k && (best == null || costOf(p) < costOf(best)
                || costOf(p) == costOf(best) && Arrays.compare(p, best) > 0)) {
                best = p;
            }
        }
        refuseIf(best == null, 8);
        return best;
    }

    private static int minutesStood(int firm, int height, int heat) {
        int f = firm;
        int minutes = 0;
        while (f >= height) {
            f -= heat;
            minutes++;
        }
        return minutes;
    }

    private List<int[]> fitting(int[] i) {
        refuseIf(i[1] < 0 || i[1] > 3, 1);
        Mould m = needMould(i[0]);
        refuseIf(trays[i[1]] == null, 3);
        refuseIf(2L * i[2] > trays[i[1]].length, 4);
        need(i[2], 0, 20);
        long[] row = trays[i[1]];
        List<int[]> out = fillings(m, false);
        for (int k = 0; k < i[2]; k++) {
            need(row[2 * k], 1, 9);
            need(row[2 * k + 1], 0, 99);
        }
        for (int k = 0; k < i[2]; k++) {
            int heat = (int) row[2 * k];
            long minutes = row[2 * k + 1];
            out.removeIf(p -> minutesStood(strengthOf(p), m.height, heat) != minutes);
        }
        return out;
    }

    private int bestHeat(List<int[]> ways, int height) {
        int best = 0;
        int fewest = Integer.MAX_VALUE;
        for (int heat = 1; heat <= 9; heat++) {
            int[] many = new int[200];
            int most = 0;
            for (int[] p : ways) {
                most = Math.max(most, ++many[minutesStood(strengthOf(p), height, heat)]);
            }
            if (most < fewest) {
                fewest = most;
                best = heat;
            }
        }
        return best;
    }

    private long search(String name, int[] i) {
        switch (name) {
            case "mix":
                Mould m = needMould(i[0]);
                need(i[1], 0, 81);
                return costOf(mixOf(m, i[1]));
            case "mixPart":
                m = needMould(i[0]);
                needStuff(i[2]);
                need(i[1], 0, 81);
                return mixOf(m, i[1])[i[2]];
            case "strongest":
                m = needMould(i[0]);
                return fillings(m, true).stream().mapToInt(this::strengthOf).max().orElseThrow(() -> new Refused(8));
            case "fillings":
                return fillings(needMould(i[0]), true).size();
            case "shaken":
                return see.shaken(needWay(i[0], i[1]));
            case "way":
                List<Integer> way = needWay(i[0], i[1]);
                refuseIf(i[2] < 0 || i[2] >= way.size(), 8);
                return way.get(i[2]);
            case "reach":
                return reach(i[0]);
            case "fits":
                return fitting(i).size();
            case "fitsBy":
                List<int[]> all = fitting(i);
                need(i[3], 0, 1);
                refuseIf(all.isEmpty(), 8);
                return i[3] == 0 ? all.stream().mapToInt(this::strengthOf).min().getAsInt()
                    : all.stream().mapToInt(this::strengthOf).max().getAsInt();
            case "ask":
                all = fitting(i);
                refuseIf(all.size() < 2, 8);
                return bestHeat(all, see.moulds.get(i[0]).height);
            default:
                return chance(name, i);
        }
    }

    private List<Integer> needWay(int a, int b) {
        needPlace(a);
        needPlace(b);
        List<Integer> way = see.way(a, b);
        refuseIf(way == null, 8);
        return way;
    }

    private long reach(int mould) {
        refuseIf(!needMould(mould).stands, 9);
        int set = 0;
        for (int p = 0; p < see.places.size(); p++) {
            See c = see.copy();
            try {
                c.carry(mould, p);
                set |= c.moulds.get(mould).stands ? 1 << p : 0;
            } catch (Refused e) {
                set |= e.why == 9 ? 1 << p : 0;
            }
        }
        return set;
    }

    /** By best play from here: the value, and the first's first move. */
    private static int[] play(See s, int mine, int his, int turns, int sign) {
        if (turns == 0) {
            return new int[] {sign * (s.strength(s.moulds.get(mine)) - s.strength(s.moulds.get(his))), -1};
        }
        int[] best = null;
        for (int k = 0; k <= s.stuffs.size(); k++) {
            See c = s.copy();
            int stuff = k == s.stuffs.size() ? -1 : k;
            if (stuff >= 0) {
                try {
                    c.pour(mine, stuff, 1);
                } catch (Refused e) {
                    continue;
                }
            }
            int value = play(c, his, mine, turns - 1, -sign)[0];
            if (best == null || sign * value > sign * best[0]) {
                best = new int[] {value, stuff};
            }
        }
        return best;
    }

    private long tell(BigInteger up, BigInteger down) {
        BigInteger g = up.gcd(down);
        top = up.divide(g);
        bottom = down.divide(g);
        return 1;
    }

    private long chance(String name, int[] i) {
        switch (name) {
            case "game":
            case "moveOf":
                needMould(i[0]);
                needMould(i[1]);
                refuseIf(i[0] == i[1], 5);
                need(i[2], name.equals("game") ? 0 : 1, 4);
                int[] played = play(see.copy(), i[0], i[1], i[2], 1);
                refuseIf(name.equals("moveOf") && played[1] < 0, 8);
                return name.equals("game") ? played[0] : played[1];
            case "bubbles":
                need(i[0], 0, 12);
                need(i[1], 0, 12);
                BigInteger sum = BigInteger.ZERO;
                for (int set = 0; set < 1 << i[0]; set++) {
                    int have = Integer.bitCount(set);
                    if (have >= i[1]) {
                        sum = sum.add(BigInteger.valueOf(see.odds).pow(have)
                            .multiply(BigInteger.valueOf(16 - see.odds).pow(i[0] - have)));
                    }
                }
                return tell(sum, BigInteger.valueOf(16).pow(i[0]));
            case "poise":
                Mould m = needMould(i[0]);
                refuseIf(!m.stands, 9);
                return tell(BigInteger.valueOf(m.firm), BigInteger.valueOf(m.height));
            default:
                return feast(name, i);
        }
    }

    private long feast(String name, int[] i) {
        switch (name) {
            case "live":
                need(i[0], 0, 9999);
                refuseIf(see.feasts == null, 8);
                See old = see.copy();
                Life life = new Life(see, i[0]);
                lived = new int[] {life.missed, see.minute - old.minute, see.fellInAll() - old.fellInAll(),
                    see.spent - old.spent, life.left ? 1 : 0};
                return life.steps;
            case "lived":
                need(i[0], 0, 4);
                refuseIf(lived == null, 8);
                return lived[i[0]];
            case "mean":
                need(i[0], 0, 9999);
                need(i[1], 1, 20);
                need(i[0] + i[1] - 1, 0, 9999);
                refuseIf(see.feasts == null, 8);
                long sum = 0;
                for (int k = 0; k < i[1]; k++) {
                    See c = see.copy();
                    new Life(c, i[0] + k);
                    sum += c.moulds.stream().mapToInt(m -> m.firm).sum();
                }
                return tell(BigInteger.valueOf(sum), BigInteger.valueOf(i[1]));
            case "mark":
                refuseIf(marks.size() == 3, 7);
                marks.push(see.copy());
                return marks.size();
            case "back":
                refuseIf(marks.isEmpty(), 8);
                see = marks.pop();
                return marks.size();
            default:
                throw new IllegalStateException(name);
        }
    }
}
