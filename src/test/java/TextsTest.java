import java.nio.charset.StandardCharsets;

/** The bounds of the texts: bytes, TOKENS, NAMES, NUMBERS, how many there are, FAULTS and where they are. */
public final class TextsTest {
    private static final String KEPT = "heat odds stuff sets costs stock place walk shakes mould high holds at pour void "
        + "knock touch carry minute any when stands firm loop end stop";
    private static final String AHEAD = "stuff sa sets 1 costs 1;place pa;place pb;mould ma high 1 holds 1 at pa;";

    // Told in place of each TOKEN of each PART and STEP; "" is the text's end.
    private static final String[] OTHERS = {"", "@", "12345", ";", "<", "5", "firm", "shakes", "abcdefghi", "zz", "sa", "pa",
        "ma"};

    public static void main(String[] args) {
        everyByte();
        tokensAsLongAsTheyGo();
        lengthOfTheText();
        lengthOfNames();
        keptWords();
        oneNameOfOneThing();
        toldAhead();
        partsTokenByToken();
        stepsTokenByToken();
        numbersOfASee();
        numbersOfFeasts();
        whatIsSoWithout();
        howManyOfASee();
        numberedAsTheyStand();
        howManyOfFeasts();
        firstAlongTheText();
        leastKindOfOneToken();
        toldAgain();
        endsOfFeasts();
        aNewSee();
        nothingOfThoseAhead();
        refusedTexts();
        Check.end();
    }

    private static void taken(String text) {
        JellyCathedral x = new JellyCathedral();
        Check.due("taken: " + text, true, Check.see(x, text) >= 0);
        Check.due("no fault in " + text, 0, x.fault(0));
        Check.due("no place in " + text, -1, x.fault(1));
    }

    private static void feastsTaken(String text, int steps) {
        JellyCathedral x = Check.ofSee(Check.SEE);
        Check.due("taken: " + text, x, Check.feasts(x, text), steps, 0);
        Check.due("no fault in " + text, 0, x.fault(0));
    }

    private static String times(int many, String text) {
        StringBuilder b = new StringBuilder();
        for (int i = 0; i < many; i++) {
            b.append(text);
        }
        return b.toString();
    }

    private static String named(int many, String ahead, String behind) {
        StringBuilder b = new StringBuilder();
        for (int i = 0; i < many; i++) {
            b.append(ahead).append((char) ('a' + i)).append(behind);
        }
        return b.toString();
    }

    // ---- TOKENS

    private static void everyByte() {
        for (int b = 0; b < 256; b++) {
            String one = new String(new byte[] {(byte) b}, StandardCharsets.ISO_8859_1);
            boolean blank = b == 10 || b == 32;
            boolean begins = b >= 'a' && b <= 'z' || b >= '0' && b <= '9' || b == ';' || b == '<' || b == '>' || b == '=';
            int fault = blank ? 0 : begins ? 2 : 1;
            JellyCathedral x = new JellyCathedral();
            Check.due("see of byte " + b, x, Check.see(x, one), blank ? 0 : -1, blank ? 0 : 10);
            Check.due("fault of byte " + b, fault, x.fault(0));
            Check.due("place of byte " + b, blank ? -1 : 0, x.fault(1));
            Check.due("feasts of byte " + b, x, Check.feasts(x, one), blank ? 0 : -1, blank ? 0 : 10);
            Check.due("fault of byte " + b, fault, x.fault(0));
            Check.due("place of byte " + b, blank ? -1 : 0, x.fault(1));
            // Between two TOKENS it is a blank, or a fault of its own.
            x = new JellyCathedral();
            Check.see(x, "heat" + one + " 7;");
            boolean small = b >= 'a' && b <= 'z';
            boolean digit = b >= '0' && b <= '9';
            Check.due("behind heat, byte " + b, blank ? 0 : begins ? 2 : 1, x.fault(0));
            Check.due("its place", blank ? -1 : small ? 0 : digit ? 6 : 4, x.fault(1));
            // Behind a digit another one makes a NUMBER that can't be, and all else is another TOKEN.
            x = new JellyCathedral();
            Check.see(x, "heat 1" + one + ";");
            Check.due("behind a digit, byte " + b, blank ? 0 : digit ? 4 : begins ? 2 : 1, x.fault(0));
            Check.due("its place", blank ? -1 : digit ? 5 : b == ';' ? 7 : 6, x.fault(1));
        }
    }

    private static void tokensAsLongAsTheyGo() {
        JellyCathedral x = new JellyCathedral();
        Check.due("no blanks", x, Check.see(x, "heat7;odds8;"), 0, 0);
        Check.due("heat", 7, x.many(3));
        Check.due("odds", 8, x.many(4));
        Check.due("many blanks", x, Check.see(x, "\n \nheat\n\n7 ;  odds \n 8\n;\n"), 0, 0);
        Check.due("heat", 7, x.many(3));
        Check.due("odds", 8, x.many(4));
        Check.seeFault("heats 7;", 2, 0);
        Check.seeFault("he at 7;", 2, 0);
        Check.seeFault("heat 1 2;", 2, 7);
        Check.seeFault("heat 12;", 4, 5);
        taken("place setsx;");
        Check.seeFault("place a1;", 2, 7);
        Check.seeFault("place aB;", 1, 7);
        // 1 to 4 digits; of 5 and more it is the first that is told.
        taken("heat 9;");
        taken("heat 0009;");
        Check.seeFault("heat 00009;", 1, 5);
        Check.seeFault("heat 000000009;", 1, 5);
        Check.seeFault("heat 9999;", 4, 5);
        Check.seeFault("heat 10000;", 1, 5);
        Check.seeFault("heat 4294967297;", 1, 5);
        Check.seeFault("place 00009;", 1, 6);
        Check.feastsFault("minute 00009;", 1, 7);
        feastsTaken("minute 0009;", 1);
    }

    private static void lengthOfTheText() {
        String full = times(49, "\n") + "place abcdefgh;" + times(20, " ") + "place z;" + times(780, " ") + "odds 13 ;" + "place y;"
            + times(3, " ") + "heat 10 ";
        Check.due("900 bytes", 900, full.length());
        JellyCathedral x = new JellyCathedral();
        Check.due("its NUMBER", x, Check.see(x, full), -1, 10);
        Check.due("is read to the end", 4, x.fault(0));
        Check.due("where it is", 897, x.fault(1));
        String fine = full.substring(0, 889) + "   heat 7; ";
        Check.due("900 bytes", 900, fine.length());
        Check.due("900 are taken", x, Check.see(x, fine), 0, 0);
        Check.due("all of them", 7, x.many(3));
        Check.due("all of them", 3, x.many(1));
        Check.due("the tape is empty", x, x.see(1), -1, 5);
        // The end is where the text ends, not the tape.
        Check.feed(x, Check.bytes("heat 12;"));
        Check.due("cut within a NUMBER", x, x.see(6), -1, 10);
        Check.due("the end", 2, x.fault(0));
        Check.due("the text's length", 6, x.fault(1));
        Check.feed(x, Check.bytes("odds 16;"));
        Check.due("cut within a WORD", x, x.see(3), -1, 10);
        Check.due("is another WORD", 2, x.fault(0));
        Check.due("at its place", 0, x.fault(1));
        Check.feed(x, Check.bytes("heat 45;"));
        Check.due("nothing of it", x, x.see(0), 0, 0);
        Check.due("the rest is gone, too", x, x.see(1), -1, 5);
        Check.due("nothing of nothing", x, x.see(0), 0, 0);
        JellyCathedral y = Check.ofSee(Check.SEE);
        String feasts = times(58, "any; ") + "minute 60;";
        Check.due("300 bytes", 300, feasts.length());
        Check.due("31 STEPS are one too many", y, Check.feasts(y, feasts), -1, 10);
        Check.due("at the 31st WORD", 150, y.fault(1));
        feasts = times(29, "any; ") + times(145, "\n") + "minute 60;";
        Check.due("300 bytes", 300, feasts.length());
        Check.due("300 are taken", y, Check.feasts(y, feasts), 30, 0);
        y.live(0);
        Check.due("all of them", 60, y.many(5));
        Check.feed(y, Check.bytes(feasts + " "));
        Check.due("301 are not", y, y.feasts(301), -1, 5);
        Check.due("the tape stays", y, y.feasts(300), 30, 0);
    }

    // ---- NAMES

    private static void lengthOfNames() {
        taken("place a;");
        taken("place abcdefgh;");
        Check.seeFault("place abcdefghi;", 2, 6);
        Check.seeFault("place " + times(800, "z") + ";", 2, 6);
        taken("stuff abcdefgh sets 1 costs 1;");
        Check.seeFault("stuff abcdefghi sets 1 costs 1;", 2, 6);
        taken("place abcdefgh;mould zzzzzzzz high 1 holds 1 at abcdefgh;");
        Check.seeFault("place p;mould abcdefghi high 1 holds 1 at p;", 2, 14);
        Check.seeFault("place p;mould m high 1 holds 1 at abcdefghi;", 2, 34);
        Check.seeFault("place abcdefgh;place b;walk b abcdefghi shakes 1;", 2, 30);
        Check.seeFault("place abcdefgh;place b;walk abcdefghi b shakes 1;", 2, 28);
        Check.feastsFault("touch abcdefghi;", 2, 6);
        Check.feastsFault("touch abcdefgh;", 3, 6);
        Check.feastsFault("abcdefghi;", 2, 0);
        Check.seeFault("abcdefghi;", 2, 0);
        Check.seeFault("heat abcdefghi;", 2, 5);
        // NAMES are as long as they are: none is told by its beginning, or its end.
        JellyCathedral x = Check.ofSee("place a;place aa;place ab;place aaaaaaaa;place aaaaaaab;place baaaaaaa;");
        Check.due("six NAMES", 6, x.many(1));
        Check.see(x, "place aaaaaaa;place aaaaaaaa;mould m high 1 holds 1 at aaaaaaaa;mould n high 1 holds 1 at aaaaaaa;");
        Check.due("the second", 1, x.mould(0, 2));
        Check.due("the first", 0, x.mould(1, 2));
    }

    private static void keptWords() {
        String[] kept = KEPT.split(" ");
        Check.due("kept words", 26, kept.length);
        for (String word : kept) {
            Check.seeFault("place " + word + ";", 2, 6);
            Check.seeFault("stuff " + word + " sets 1 costs 1;", 2, 6);
            Check.seeFault("place p;mould " + word + " high 1 holds 1 at p;", 2, 14);
            Check.seeFault("place p;mould m high 1 holds 1 at " + word + ";", 2, 34);
            Check.feastsFault("touch " + word + ";", 2, 6);
            taken("place " + word + "z;");
            taken("place z" + word + ";");
            taken("place " + word.substring(1) + word.charAt(0) + ";");
        }
        taken("place jelly;stuff anyone sets 1 costs 1;");
    }

    private static void oneNameOfOneThing() {
        String[] things = {"stuff z sets 1 costs 1;", "place z;", "mould z high 1 holds 1 at a;"};
        for (String first : things) {
            for (String second : things) {
                String ahead = "place a;" + first;
                Check.seeFault(ahead + second, 3, ahead.length() + 6);
            }
            Check.seeFault("place a;" + first + "place a;", 3, 8 + first.length() + 6);
        }
        // It is taken within its own PART already.
        Check.seeFault("place a;mould b high 1 holds 1 at b;", 3, 34);
    }

    private static void toldAhead() {
        Check.seeFault("place a;walk a b shakes 1;place b;", 3, 15);
        Check.seeFault("place b;walk a b shakes 1;place a;", 3, 13);
        taken("place a;place b;walk a b shakes 1;");
        Check.seeFault("mould m high 1 holds 1 at a;place a;", 3, 26);
        taken("place a;mould m high 1 holds 1 at a;");
        Check.seeFault("stuff s sets 1 costs 1;place a;walk a s shakes 1;", 3, 38);
        Check.seeFault("place a;mould m high 1 holds 1 at a;walk a m shakes 1;", 3, 43);
        Check.seeFault("stuff s sets 1 costs 1;mould m high 1 holds 1 at s;", 3, 49);
        // What a SEE ahead told is not told.
        JellyCathedral x = Check.ofSee("place a;");
        Check.due("of the SEE ahead", x, Check.see(x, "mould m high 1 holds 1 at a;"), -1, 10);
        Check.due("is no PLACE", 3, x.fault(0));
        Check.see(x, "place a;mould m high 1 holds 1 at a;");
        Check.see(x, "place b;mould n high 1 holds 1 at b;");
        Check.due("of the SEE ahead", x, Check.feasts(x, "touch m;"), -1, 10);
        Check.due("is no MOULD", 3, x.fault(0));
    }

    // ---- the form of PARTS and STEPS

    private static void partsTokenByToken() {
        eachToken(true, "heat 1 ;", "B # ;");
        eachToken(true, "odds 1 ;", "B # ;");
        eachToken(true, "stuff x sets 1 costs 1 ;", "B N sets # costs # ;");
        eachToken(true, "stuff x sets 1 costs 1 stock 1 ;", "B N sets # costs # ; # ;");
        eachToken(true, "place x ;", "B N ;");
        eachToken(true, "walk pb pa shakes 1 ;", "B P P shakes # ;");
        eachToken(true, "mould x high 1 holds 1 at pa ;", "B N high # holds # at P ;");
    }

    private static void stepsTokenByToken() {
        eachToken(false, "pour ma sa 1 ;", "B M S # ;");
        eachToken(false, "void ma ;", "B M ;");
        eachToken(false, "knock ma ;", "B M ;");
        eachToken(false, "touch ma ;", "B M ;");
        eachToken(false, "carry ma pa ;", "B M P ;");
        eachToken(false, "minute 1 ;", "B # ;");
        eachToken(false, "heat 1 ;", "B # ;");
        eachToken(false, "any ;", "B ;");
        eachToken(false, "stop ;", "B ;");
        eachToken(false, "loop 1 ; end ;", "B # ; E ;");
        eachToken(false, "when stands ma ; end ;", "B T M ; E ;");
        eachToken(false, "when firm ma < 1 ; end ;", "B T M C # ; E ;");
        eachToken(false, "when firm ma > 1 ; end ;", "B T M C # ; E ;");
        eachToken(false, "when firm ma = 1 ; end ;", "B T M C # ; E ;");
        eachToken(false, "when at ma pa ; end ;", "B T M P ; E ;");
        feastsTaken("loop 1; any; when stands big; stop; end; end;", 4);
    }

    private static void eachToken(boolean isSee, String text, String roles) {
        String[] tokens = text.split(" ");
        String[] role = roles.split(" ");
        Check.due("roles of " + text, tokens.length, role.length);
        textIs(isSee, text, 0, -1);
        StringBuilder ahead = new StringBuilder();
        for (int k = 0; k < tokens.length; k++) {
            for (String other : OTHERS) {
                int fault = faultOf(role[k], other);
                if (fault > 0) {
                    textIs(isSee, ahead + other, fault, ahead.length());
                }
                if (fault > 0 && !other.isEmpty()) {
                    textIs(isSee, ahead + other + ";;@", fault, ahead.length());
                }
            }
            ahead.append(tokens[k]).append(k % 2 == 0 ? " " : "\n");
        }
    }

    /** Which FAULT a TOKEN is in a place; 0 if it is none, or can be one only later. */
    private static int faultOf(String role, String other) {
        boolean end = other.isEmpty();
        if (other.equals("@") || other.equals("12345")) {
            return 1;
        }
        boolean name = other.length() == 2 && Character.isLetter(other.charAt(0));
        switch (role) {
            case "B":
                return end ? 0 : 2;
            case "E":
                return 2;
            case "N":
                return !name ? 2 : other.equals("zz") ? 0 : 3;
            case "S":
                return !name ? 2 : other.equals("sa") ? 0 : 3;
            case "P":
                return !name ? 2 : other.equals("pa") ? 0 : 3;
            case "M":
                return !name ? 2 : other.equals("ma") ? 0 : 3;
            case "T":
                return other.equals("firm") ? 0 : 2;
            case "C":
                return other.equals("<") ? 0 : 2;
            case "#":
                return other.equals("5") ? 0 : 2;
            default:
                return other.equals(role) ? 0 : 2;
        }
    }

    private static void textIs(boolean isSee, String text, int fault, int place) {
        JellyCathedral x = Check.ofSee(AHEAD);
        String all = isSee ? AHEAD + text : text;
        int got = isSee ? Check.see(x, all) : Check.feasts(x, all);
        Check.due("status of " + text, fault == 0 ? 0 : 10, x.status());
        Check.due("answer of " + text, fault > 0, got == -1);
        Check.due("fault of " + text, fault, x.fault(0));
        Check.due("place of " + text, fault == 0 ? -1 : isSee ? AHEAD.length() + place : place, x.fault(1));
    }

    // ---- NUMBERS

    /** From the least to the most it is taken; one less (if there is one less) and one more are FAULT 4 there. */
    private static void bounds(boolean isSee, String ahead, String behind, int least, int most) {
        for (int v : new int[] {least, most, (least + most) / 2}) {
            textIs(isSee, ahead + v + behind, 0, -1);
        }
        if (least > 0) {
            textIs(isSee, ahead + (least - 1) + behind, 4, ahead.length());
        }
        for (int v : new int[] {most + 1, 9999, 256, 1000}) {
            textIs(isSee, ahead + v + behind, 4, ahead.length());
        }
    }

    private static void numbersOfASee() {
        bounds(true, "heat ", ";", 0, 9);
        bounds(true, "odds ", ";", 0, 16);
        bounds(true, "stuff x sets ", " costs 1;", 0, 9);
        bounds(true, "stuff x sets 1 costs ", ";", 0, 99);
        bounds(true, "stuff x sets 1 costs 1 stock ", ";", 0, 99);
        bounds(true, "walk pa pb shakes ", ";", 0, 9);
        bounds(true, "mould x high ", " holds 1 at pa;", 1, 30);
        bounds(true, "mould x high 1 holds ", " at pa;", 1, 9);
        for (int v = 0; v <= 9; v += 9) {
            JellyCathedral x = Check.ofSee("heat " + v + ";odds " + (v + v / 9 * 7) + ";stuff s sets " + v + " costs " + v * 11
                + " stock " + v * 11 + ";place a;place b;walk a b shakes " + v + ";mould m high " + (1 + v / 9 * 29) + " holds "
                + (1 + v / 9 * 8) + " at b;");
            Check.due("heat", v, x.many(3));
            Check.due("odds", v == 0 ? 0 : 16, x.many(4));
            Check.due("set", v, x.stuff(0, 0));
            Check.due("cost", v == 0 ? 0 : 99, x.stuff(0, 1));
            Check.due("stock", v == 0 ? 0 : 99, x.stuff(0, 2));
            Check.due("shakes", v, x.shaken(0, 1));
            Check.due("height", v == 0 ? 1 : 30, x.mould(0, 0));
            Check.due("room", v == 0 ? 1 : 9, x.mould(0, 1));
        }
    }

    private static void numbersOfFeasts() {
        bounds(false, "pour ma sa ", ";", 1, 9);
        bounds(false, "minute ", ";", 1, 60);
        bounds(false, "heat ", ";", 0, 9);
        bounds(false, "loop ", ";end;", 1, 99);
        bounds(false, "when firm ma < ", ";end;", 0, 99);
        bounds(false, "when firm ma > ", ";end;", 0, 99);
        bounds(false, "when firm ma = ", ";end;", 0, 99);
    }

    private static void whatIsSoWithout() {
        JellyCathedral x = Check.ofSee("");
        Check.due("HEAT without", 3, x.many(3));
        Check.due("ODDS without", 2, x.many(4));
        x = Check.ofSee("stuff a sets 1 costs 2;stuff b sets 3 costs 4 stock 5;stuff c sets 6 costs 7;");
        int[][] want = {{1, 2, 20}, {3, 4, 5}, {6, 7, 20}};
        for (int s = 0; s < 3; s++) {
            for (int w = 0; w < 3; w++) {
                Check.due("stuff " + s + " " + w, x, x.stuff(s, w), want[s][w], 0);
            }
        }
        Check.see(x, "heat 9;odds 9;");
        Check.see(x, "place p;");
        Check.due("HEAT without, again", 3, x.many(3));
        Check.due("ODDS without, again", 2, x.many(4));
    }

    // ---- how many

    private static void howManyOfASee() {
        String stuffs = named(5, "stuff s", " sets 1 costs 1;");
        String places = named(6, "place p", ";");
        String walks = places + times(10, "walk pa pb shakes 1;");
        String moulds = places + named(5, "mould m", " high 1 holds 1 at pf;");
        JellyCathedral x = Check.ofSee(stuffs);
        Check.due("five STUFFS", 5, x.many(0));
        Check.due("the fifth", x, x.stuff(4, 0), 1, 0);
        Check.due("no sixth", x, x.stuff(5, 0), -1, 2);
        x = Check.ofSee(places);
        Check.due("six PLACES", 6, x.many(1));
        Check.due("the sixth", x, x.shaken(5, 5), 0, 0);
        Check.due("no seventh", x, x.shaken(6, 6), -1, 2);
        taken(walks);
        x = Check.ofSee(moulds);
        Check.due("five MOULDS", 5, x.many(2));
        Check.due("the fifth", x, x.mould(4, 2), 5, 0);
        Check.due("no sixth", x, x.mould(5, 2), -1, 2);
        String[][] beyond = {{stuffs, "stuff"}, {places, "place"}, {walks, "walk"}, {moulds, "mould"}};
        for (String[] b : beyond) {
            Check.seeFault(b[0] + b[1], 6, b[0].length());
            Check.seeFault(b[0] + " " + b[1] + " heat;", 6, b[0].length() + 1);
            Check.seeFault(b[0] + "heat 1;" + b[1] + "\n@", 6, b[0].length() + 7);
        }
        Check.seeFault(stuffs + "stuff sf sets 1 costs 1;", 6, stuffs.length());
        Check.seeFault(places + "place pg;", 6, places.length());
        Check.seeFault(walks + "walk pa pc shakes 1;", 6, walks.length());
        Check.seeFault(moulds + "mould mf high 1 holds 1 at pa;", 6, moulds.length());
        // All of them beside each other are no more than each alone.
        String all = named(5, "stuff s", " sets 1 costs 1;") + named(6, "place p", ";") + times(10, "walk pa pb shakes 1;")
            + named(5, "mould m", " high 1 holds 1 at pf;");
        x = Check.ofSee(all);
        Check.due("all of them", 5 * 100 + 6 * 10 + 5, x.many(0) * 100 + x.many(1) * 10 + x.many(2));
        Check.due("their NAMES", x, Check.feasts(x, "pour me se 1;carry me pf;"), 2, 0);
    }

    private static void numberedAsTheyStand() {
        JellyCathedral x = Check.ofSee("place zb;stuff y sets 7 costs 1;place za;mould x high 3 holds 1 at za;stuff w sets 8 costs 2;"
            + "mould v high 4 holds 2 at zb;place zc;walk zc za shakes 6;");
        Check.due("stuff 0", 7, x.stuff(0, 0));
        Check.due("stuff 1", 8, x.stuff(1, 0));
        Check.due("mould 0", 3, x.mould(0, 0));
        Check.due("at the second", 1, x.mould(0, 2));
        Check.due("mould 1", 4, x.mould(1, 0));
        Check.due("at the first", 0, x.mould(1, 2));
        Check.due("place 2", 6, x.shaken(2, 1));
        Check.due("void", 3, x.many(8));
    }

    private static void howManyOfFeasts() {
        feastsTaken("", 0);
        feastsTaken("any;", 1);
        feastsTaken(times(30, "any;"), 30);
        Check.feastsFault(times(30, "any;") + "any;", 6, 120);
        Check.feastsFault(times(30, "any;") + " when", 6, 121);
        Check.feastsFault(times(30, "any;") + "stop", 6, 120);
        // The end of one is no STEP.
        feastsTaken(times(29, "any;") + "loop 1;end;", 30);
        feastsTaken(times(27, "any;") + "loop 1;loop 1;loop 1;end;end;end;", 30);
        feastsTaken(times(27, "loop 1;end;"), 27);
        Check.feastsFault(times(27, "any;") + "loop 1;loop 1;loop 1;any;end;end;end;", 6, 129);
        Check.feastsFault(times(30, "any;") + "end;", 2, 120);
        Check.feastsFault(times(30, "any;") + "go;", 2, 120);
        Check.feastsFault(times(29, "any;") + "loop 1;", 2, 123);
        // Three within one another, and a fourth.
        String[] opens = {"loop 1;", "when stands big;"};
        for (String a : opens) {
            for (String b : opens) {
                for (String c : opens) {
                    feastsTaken(a + b + c + "any;end;end;end;", 4);
                    for (String d : opens) {
                        Check.feastsFault(a + b + c + d, 7, (a + b + c).length());
                        Check.feastsFault(a + b + c + "any;" + d, 7, (a + b + c).length() + 4);
                        feastsTaken(a + b + c + "end;" + d + "end;end;end;", 4);
                    }
                }
            }
        }
        Check.feastsFault("loop 1;loop 1;loop 1;loop", 7, 21);
        Check.feastsFault("loop 1;loop 1;loop 1;when @", 7, 21);
    }

    // ---- which FAULT

    private static void firstAlongTheText() {
        Check.seeFault("heat 10;heat @", 4, 5);
        Check.seeFault("heat ;@", 2, 5);
        Check.seeFault("heat @;;", 1, 5);
        Check.seeFault("place a;place a;heat 10;", 3, 14);
        Check.seeFault("heat 3;heat 10;", 5, 7);
        Check.seeFault("place a;walk a a shakes 10;", 5, 15);
        Check.seeFault("walk a a shakes 10;", 3, 5);
        Check.seeFault("stuff a sets 10 costs 100;", 4, 13);
        Check.feastsFault("pour nobody noone 0;", 3, 5);
        Check.feastsFault("pour big noone 0;", 3, 9);
        Check.feastsFault("pour big agar 0", 4, 14);
        Check.feastsFault("carry nobody noplace;", 3, 6);
        Check.feastsFault("when at nobody noplace;", 3, 8);
        Check.feastsFault("loop 100;end;end;", 4, 5);
        Check.feastsFault("loop 1;", 2, 7);
    }

    private static void leastKindOfOneToken() {
        // 1 ahead of 2 and of 4, 2 ahead of 3, 6 ahead of 7.
        Check.seeFault("12345;", 1, 0);
        Check.seeFault("place 12345;", 1, 6);
        Check.seeFault("heat 12345;", 1, 5);
        Check.seeFault("place abcdefgh;walk abcdefghi", 2, 20);
        Check.feastsFault("touch stop;", 2, 6);
        Check.feastsFault(times(27, "any;") + times(3, "loop 1;") + "loop", 6, 129);
        Check.feastsFault(times(26, "any;") + times(3, "loop 1;") + "loop", 7, 125);
        Check.feastsFault(times(27, "any;") + times(3, "loop 1;") + "when stands big;", 6, 129);
    }

    private static void toldAgain() {
        Check.seeFault("heat 3;heat 3;", 5, 7);
        Check.seeFault("heat 0;heat", 5, 7);
        Check.seeFault("odds 2;odds 2;", 5, 7);
        Check.seeFault("odds 0;heat 0;place a; odds", 5, 23);
        Check.seeFault("heat 3;odds 2;heat 4;", 5, 14);
        taken("odds 3;heat 3;");
        Check.seeFault("place a;place b;walk a b shakes 1;walk b b shakes 1;", 5, 41);
        taken("place a;place b;walk a b shakes 1;walk b a shakes 1;");
        JellyCathedral x = Check.ofSee("");
        Check.due("heat told twice in FEASTS is no FAULT", x, Check.feasts(x, "heat 4;heat 4;"), 2, 0);
    }

    private static void endsOfFeasts() {
        feastsTaken("loop 1;end;", 1);
        Check.feastsFault("loop 1;end;end;", 2, 11);
        Check.feastsFault("end;", 2, 0);
        Check.feastsFault("any;end;", 2, 4);
        Check.feastsFault("loop 1;", 2, 7);
        Check.feastsFault("loop 1; \n", 2, 9);
        Check.feastsFault("loop 1;loop 1;end;", 2, 18);
        Check.feastsFault("when stands big;any;", 2, 20);
        Check.feastsFault("loop 1;end", 2, 10);
        Check.feastsFault("loop 1;stop;", 2, 12);
        feastsTaken("loop 1;stop;end;", 2);
        feastsTaken("when stands big;end;when stands big;end;", 2);
        Check.seeFault("end;", 2, 0);
    }

    // ---- a SEE that is taken, one that is not

    private static void aNewSee() {
        JellyCathedral x = Check.ofSee("heat 1;odds 5;stuff s sets 9 costs 3 stock 9;place p;place q;walk p q shakes 2;"
            + "mould m high 9 holds 1 at p;mould n high 30 holds 1 at p;");
        x.pour(0, 0, 1);
        x.pour(1, 0, 1);
        x.minute(9);
        x.knock(0);
        x.knock(1);
        x.carry(1, 1);
        Check.feasts(x, "any;");
        x.live(4);
        x.mark();
        Check.due("SPENT", 6, x.many(6));
        Check.due("FELL", 1, x.many(7));
        Check.due("the same again", x, Check.see(x, "stuff s sets 9 costs 3 stock 9;place p;place q;mould m high 9 holds 1 at p;"
            + "mould n high 30 holds 1 at p;"), 2, 0);
        int[] want = {1, 2, 2, 3, 2, 0, 0, 0, 3, 0, 0};
        for (int w = 0; w < want.length; w++) {
            Check.due("many " + w, x, x.many(w), want[w], 0);
        }
        for (int m = 0; m < 2; m++) {
            int[] mould = {m == 0 ? 9 : 30, 1, 0, 0, 0, 0, 0, 0};
            for (int w = 0; w < mould.length; w++) {
                Check.due("mould " + m + " " + w, x, x.mould(m, w), mould[w], 0);
            }
            Check.due("no part", x, x.part(m, 0), 0, 0);
        }
        Check.due("STOCK", 9, x.stuff(0, 2));
        Check.due("no WALKS of that ahead", x, x.shaken(0, 1), -1, 8);
        Check.due("no FEASTS", x, x.live(4), -1, 8);
        Check.due("no FEASTS", x, x.mean(4, 1), false, 8);
        Check.due("the MARK stays", x, x.back(), 0, 0);
        Check.due("its MINUTE", 9, x.many(5));
    }

    /** Of all SEES ahead, not of the latest alone, nothing may be left. */
    private static void nothingOfThoseAhead() {
        JellyCathedral x = new JellyCathedral();
        for (int round = 0; round < 4; round++) {
            Check.see(x, "heat 0;odds 9;stuff s sets 9 costs 3;place p;place q;walk p q shakes 1;mould m high 9 holds 1 at p;"
                + "mould n high 30 holds 1 at p;mould o high 9 holds 2 at p;");
            int[] want = {1, 2, 3, 0, 9, 0, 0, 0, 7, 0, 0};
            for (int w = 0; w < want.length; w++) {
                Check.due("round " + round + ", many " + w, x, x.many(w), want[w], 0);
            }
            for (int m = 0; m < 3; m++) {
                for (int w = 2; w < 8; w++) {
                    Check.due("round " + round + ", mould " + m + " " + w, x, x.mould(m, w), 0, 0);
                }
                Check.due("round " + round + ", part", x, x.part(m, 0), 0, 0);
            }
            Check.due("STOCK", 20, x.stuff(0, 2));
            x.pour(0, 0, 1);
            x.pour(1, 0, 1);
            x.pour(2, 0, 1);
            x.minute(3);
            x.knock(0);
            x.knock(1);
            x.carry(2, 1);
        }
        String walks = "place pa;place pb;" + times(10, "walk pa pb shakes 1;");
        String[] names = {"place a;place b;stuff c sets 1 costs 1;mould d high 1 holds 1 at a;", walks, "place d;place c;", walks,
            "place b;place a;", walks};
        x = new JellyCathedral();
        for (int round = 0; round < 4; round++) {
            for (String text : names) {
                Check.due("taken again: " + text, true, Check.see(x, text) >= 0);
            }
        }
        String[] gone = {"place a;walk a b shakes 1;", "place a;mould d high 1 holds 1 at b;", "place c;walk c b shakes 1;"};
        int[] places = {15, 34, 15};
        for (int i = 0; i < gone.length; i++) {
            x = new JellyCathedral();
            for (int round = 0; round < 3; round++) {
                Check.see(x, "place a;place b;place c;walk a b shakes 1;");
                Check.see(x, "place z;place b;place c;");
                Check.see(x, gone[i]);
                Check.due("gone in " + gone[i], 3, x.fault(0));
                Check.due("where in " + gone[i], places[i], x.fault(1));
            }
        }
        Check.see(x, "place a;place b;");
        Check.refused("no WALKS of those ahead", x, x.shaken(0, 1), 8);
        // Of FEASTS that were not taken nothing is left either.
        x = Check.ofSee(Check.SEE);
        Check.feasts(x, "loop 1;loop 1;loop 1;any;");
        Check.refused("an end without a beginning", x, Check.feasts(x, "end;"), 10);
        Check.due("at its place", 0, x.fault(1));
        Check.feasts(x, "loop 1;loop 1;loop 1;any;");
        Check.due("three within one another", x, Check.feasts(x, "loop 1;loop 1;loop 1;end;end;end;"), 3, 0);
        Check.feasts(x, "loop 1;");
        Check.due("one STEP", x, Check.feasts(x, "any;"), 1, 0);
    }

    private static void refusedTexts() {
        JellyCathedral x = Check.ofSee(Check.SEE);
        Check.feasts(x, "heat 5;heat 6;");
        x.pour(0, 0, 3);
        x.minute(7);
        String[] bad = {"heat 9;odds 9;place a;stuff b sets 1 costs 1;mould c high 1 holds 1 at a;walk", "heat 9;heat", "@"};
        for (String text : bad) {
            Check.due("refused", x, Check.see(x, text), -1, 10);
            Check.due("the tape is empty", x, x.see(1), -1, 5);
        }
        int[] want = {3, 3, 2, 2, 4, 7, 15, 0, 2, 1, 0};
        for (int w = 0; w < want.length; w++) {
            Check.due("the old one stays, many " + w, x, x.many(w), want[w], 0);
        }
        Check.due("its WALKS", 4, x.shaken(0, 2));
        Check.due("refused", x, Check.feasts(x, "heat 7;heat 8;heat 9;touch"), -1, 10);
        Check.due("the tape is empty", x, x.feasts(1), -1, 5);
        Check.due("the old FEASTS stay", x, x.live(0), 2, 0);
        Check.due("as they were", 6, x.many(3));
        Check.due("refused", x, Check.see(x, "heat"), -1, 10);
        Check.due("a refused SEE leaves the FEASTS", x, x.live(0), 2, 0);
    }
}
