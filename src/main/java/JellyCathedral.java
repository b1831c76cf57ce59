/** A see whose cathedrals are of jelly; what each call promises stands in the project's document. */
public final class JellyCathedral {
    public static final int NONE = -1;

    private static final int FINE = 0;
    private static final int NO_TRAY = 1;
    private static final int NO_THING = 2;
    private static final int MISSING = 3;
    private static final int TOO_FEW = 4;
    private static final int BAD_NUMBER = 5;
    private static final int BELOW_ZERO = 6;
    private static final int TOO_MANY = 7;
    private static final int NOTHING = 8;
    private static final int CANNOT_BE = 9;
    private static final int FAULTY = 10;
    private static final int UNLIKE = 11;

    private static final int TRAYS = 4;
    private static final int TRAY_ROOM = 60;
    private static final int TAPE_ROOM = 900;
    private static final int FEASTS_ROOM = 300;
    private static final int MARKS = 3;
    private static final int MOST_STUFFS = 5;
    private static final int MOST_PLACES = 6;
    private static final int MOST_MOULDS = 5;
    private static final int MOST_WALKS = 10;
    private static final int MOST_NAMES = MOST_STUFFS + MOST_PLACES + MOST_MOULDS;
    private static final int MOST_STEPS = 30;
    // Each when and each loop has an end of its own beside it.
    private static final int MOST_LINES = 2 * MOST_STEPS;
    private static final int MOST_NESTED = 3;
    private static final int MOST_LIVED = 300;
    private static final int LAST_MINUTE = 9999;
    private static final int LAST_SEED = 9999;
    private static final int FARTHEST = 300;
    private static final int MOST_STRENGTH = 81;
    private static final int MOST_STOCK = 999;
    private static final int MOST_HEAT = 9;
    private static final int MOST_ODDS = 16;
    // Far above the 715 ways in which nine parts can be of five stuffs.
    private static final int MOST_FILLINGS = 10000;
    private static final int FOR_EVER = 1000000;

    private static final int VOID = 0;
    private static final int SETS = 1;
    private static final int STANDS = 2;

    private static final int A_STUFF = 0;
    private static final int A_PLACE = 1;
    private static final int A_MOULD = 2;

    // A way's length is its shakes by this many, and its walks: so one number orders by both.
    private static final int SHAKE_UNIT = 64;
    private static final int NO_WAY = 1000000;

    private static final int AT_END = 0;
    private static final int WORD = 1;
    private static final int NUMBER = 2;
    private static final int SIGN = 3;
    private static final int NO_TOKEN = 4;

    private static final int FAULT_TOKEN = 1;
    private static final int FAULT_ORDER = 2;
    private static final int FAULT_NAME = 3;
    private static final int FAULT_NUMBER = 4;
    private static final int FAULT_AGAIN = 5;
    private static final int FAULT_MANY = 6;
    private static final int FAULT_NESTED = 7;

    // The words that are no names, a byte a letter, in the order of the numbers below.
    private static final long[] KEPT_WORDS = {
        0x68656174L, 0x6f646473L, 0x7374756666L, 0x73657473L, 0x636f737473L,
        0x73746f636bL, 0x706c616365L, 0x77616c6bL, 0x7368616b6573L, 0x6d6f756c64L,
        0x68696768L, 0x686f6c6473L, 0x6174L, 0x706f7572L, 0x766f6964L,
        0x6b6e6f636bL, 0x746f756368L, 0x6361727279L, 0x6d696e757465L, 0x616e79L,
        0x7768656eL, 0x7374616e6473L, 0x6669726dL, 0x6c6f6f70L, 0x656e64L,
        0x73746f70L
    };
    private static final int W_HEAT = 0;
    private static final int W_ODDS = 1;
    private static final int W_STUFF = 2;
    private static final int W_SETS = 3;
    private static final int W_COSTS = 4;
    private static final int W_STOCK = 5;
    private static final int W_PLACE = 6;
    private static final int W_WALK = 7;
    private static final int W_SHAKES = 8;
    private static final int W_MOULD = 9;
    private static final int W_HIGH = 10;
    private static final int W_HOLDS = 11;
    private static final int W_AT = 12;
    private static final int W_POUR = 13;
    private static final int W_VOID = 14;
    private static final int W_KNOCK = 15;
    private static final int W_TOUCH = 16;
    private static final int W_CARRY = 17;
    private static final int W_MINUTE = 18;
    private static final int W_ANY = 19;
    private static final int W_WHEN = 20;
    private static final int W_STANDS = 21;
    private static final int W_FIRM = 22;
    private static final int W_LOOP = 23;
    private static final int W_END = 24;
    private static final int W_STOP = 25;

    private int status;
    private long fractionTop;
    private long fractionBottom;
    private int faultKind;
    private int faultPlace;
    private See now;
    // What a text is read into, and where mean() lives; never told to anyone.
    private See spare;
    private int marked;
    private boolean hasLived;
    private final Tray[] trays;
    private final See[] marks;
    private final Text text;
    private final SeeReader seeReader;
    private final FeastsReader feastsReader;
    private final Fillings filler;
    private final Game player;
    private final Living living;
    private final int[] livedNumbers;

    public JellyCathedral() {
        trays = new Tray[TRAYS];
        for (int i = 0; i < TRAYS; i++) {
            trays[i] = new Tray();
        }
        now = new See();
        spare = new See();
        marks = new See[MARKS];
        for (int i = 0; i < MARKS; i++) {
            marks[i] = new See();
        }
        text = new Text();
        seeReader = new SeeReader();
        feastsReader = new FeastsReader();
        filler = new Fillings();
        player = new Game();
        living = new Living();
        livedNumbers = new int[5];
        status = FINE;
        fractionTop = 0;
        fractionBottom = 1;
        faultKind = NONE;
        faultPlace = NONE;
        marked = 0;
        hasLived = false;
    }

    public int status() {
        return status;
    }

    public long top() {
        return fractionTop;
    }

    public long bottom() {
        return fractionBottom;
    }

    // ---- TRAYS

    public boolean tray(int tray, int sort, int many) {
        if (!isTray(tray) || sort < 0 || sort > 3) {
            return deny(NO_TRAY);
        }
        if (many > TRAY_ROOM) {
            return deny(BAD_NUMBER);
        }
        if (many < 0) {
            return deny(BELOW_ZERO);
        }
        trays[tray].become(sort, many);
        return grant();
    }

    public boolean write(int tray, int place, long v) {
        int why = placeTrouble(tray, place);
        if (why != FINE) {
            return deny(why);
        }
        trays[tray].put(place, v);
        return grant();
    }

    public long read(int tray, int place) {
        int why = placeTrouble(tray, place);
        if (why != FINE) {
            return refuse(why);
        }
        status = FINE;
        return trays[tray].numbers[place];
    }

    public boolean decant(int tray, int i, int to, int j, int many) {
        if (!isTray(tray) || !isTray(to)) {
            return deny(NO_TRAY);
        }
        Tray from = trays[tray];
        Tray into = trays[to];
        if (!from.there || !into.there) {
            return deny(MISSING);
        }
        if (from.sort != into.sort) {
            return deny(UNLIKE);
        }
        if (many < 0) {
            return deny(BELOW_ZERO);
        }
        if (i < 0 || j < 0 || i > from.length - many || j > into.length - many) {
            return deny(TOO_FEW);
        }
        System.arraycopy(from.numbers, i, into.numbers, j, many);
        return grant();
    }

    // ---- texts

    public int feed(int a, int b, int c, int d, int e) {
        if (!text.hasRoomForFive()) {
            return NONE;
        }
        text.addFour(a);
        text.addFour(b);
        text.addFour(c);
        text.addFour(d);
        text.addFour(e);
        return text.held;
    }

    public int see(int n) {
        if (n < 0 || n > text.held) {
            return refuse(BAD_NUMBER);
        }
        text.open(n);
        boolean taken = seeReader.take(text, spare);
        if (!endText(taken)) {
            return refuse(FAULTY);
        }
        See old = now;
        now = spare;
        spare = old;
        return answer(now.moulds);
    }

    public int feasts(int n) {
        if (n < 0 || n > text.held || n > FEASTS_ROOM) {
            return refuse(BAD_NUMBER);
        }
        text.open(n);
        boolean taken = feastsReader.take(text, now, spare.program);
        if (!endText(taken)) {
            return refuse(FAULTY);
        }
        now.program.copyOf(spare.program);
        return answer(now.program.steps);
    }

    public int fault(int what) {
        if (what == 0) {
            return faultKind;
        }
        return what == 1 ? faultPlace : NONE;
    }

    public int many(int what) {
        switch (what) {
            case 0:
                return answer(now.stuffs);
            case 1:
                return answer(now.places);
            case 2:
                return answer(now.moulds);
            case 3:
                return answer(now.heat);
            case 4:
                return answer(now.odds);
            case 5:
                return answer(now.minute);
            case 6:
                return answer(now.spent);
            case 7:
                return answer(now.fallen());
            case 8:
                return answer(now.setOf(VOID));
            case 9:
                return answer(now.setOf(SETS));
            case 10:
                return answer(now.setOf(STANDS));
            default:
                return refuse(BAD_NUMBER);
        }
    }

    public int stuff(int stuff, int what) {
        if (!now.isStuff(stuff)) {
            return refuse(NO_THING);
        }
        switch (what) {
            case 0:
                return answer(now.set[stuff]);
            case 1:
                return answer(now.cost[stuff]);
            case 2:
                return answer(now.stock[stuff]);
            default:
                return refuse(BAD_NUMBER);
        }
    }

    public int mould(int mould, int what) {
        if (!now.isMould(mould)) {
            return refuse(NO_THING);
        }
        Mould one = now.mouldRow[mould];
        switch (what) {
            case 0:
                return answer(one.height);
            case 1:
                return answer(one.room);
            case 2:
                return answer(one.place);
            case 3:
                return answer(one.state);
            case 4:
                return answer(one.firm);
            case 5:
                return answer(one.strength);
            case 6:
                return answer(one.filled);
            case 7:
                return answer(one.falls);
            default:
                return refuse(BAD_NUMBER);
        }
    }

    public int part(int mould, int stuff) {
        if (!now.isMould(mould) || !now.isStuff(stuff)) {
            return refuse(NO_THING);
        }
        return answer(now.mouldRow[mould].parts[stuff]);
    }

    public int copyFirm(int tray) {
        int why = trayTrouble(tray);
        if (why != FINE) {
            return refuse(why);
        }
        if (trays[tray].length < now.moulds) {
            return refuse(TOO_FEW);
        }
        for (int i = 0; i < now.moulds; i++) {
            trays[tray].put(i, now.mouldRow[i].firm);
        }
        return answer(now.moulds);
    }

    // ---- what is done

    public int pour(int mould, int stuff, int parts) {
        if (!now.isMould(mould) || !now.isStuff(stuff)) {
            return refuse(NO_THING);
        }
        if (parts < 1 || parts > 9) {
            return refuse(BAD_NUMBER);
        }
        if (!now.pourInto(mould, stuff, parts)) {
            return refuse(CANNOT_BE);
        }
        return answer(now.mouldRow[mould].filled);
    }

    public int empty(int mould) {
        if (!now.isMould(mould)) {
            return refuse(NO_THING);
        }
        int had = now.mouldRow[mould].filled;
        return now.voidOut(mould) ? answer(had) : refuse(CANNOT_BE);
    }

    public int knock(int mould) {
        if (!now.isMould(mould)) {
            return refuse(NO_THING);
        }
        if (!now.turnOut(mould)) {
            return refuse(CANNOT_BE);
        }
        return answer(now.mouldRow[mould].state == STANDS ? 1 : 0);
    }

    public int touch(int mould) {
        if (!now.isMould(mould)) {
            return refuse(NO_THING);
        }
        return now.press(mould) ? answer(now.mouldRow[mould].firm) : refuse(CANNOT_BE);
    }

    public int carry(int mould, int place) {
        if (!now.isMould(mould) || !now.isPlace(place)) {
            return refuse(NO_THING);
        }
        int shakes = now.shakesBetween(now.mouldRow[mould].place, place);
        if (shakes == NONE) {
            return refuse(NOTHING);
        }
        return now.bring(mould, place) ? answer(shakes) : refuse(CANNOT_BE);
    }

    public int minute(int minutes) {
        if (minutes < 1 || minutes > 99) {
            return refuse(BAD_NUMBER);
        }
        int before = now.fallen();
        return now.passMinutes(minutes) ? answer(now.fallen() - before) : refuse(TOO_MANY);
    }

    public int warm(int heat) {
        if (heat < 0 || heat > MOST_HEAT) {
            return refuse(BAD_NUMBER);
        }
        int before = now.heat;
        return now.heatTo(heat) ? answer(before) : refuse(CANNOT_BE);
    }

    public int buy(int stuff, int parts) {
        if (!now.isStuff(stuff)) {
            return refuse(NO_THING);
        }
        if (parts < 1 || parts > 99) {
            return refuse(BAD_NUMBER);
        }
        if (now.stock[stuff] + parts > MOST_STOCK) {
            return refuse(TOO_MANY);
        }
        now.stock[stuff] += parts;
        return answer(now.stock[stuff]);
    }

    public boolean rule(int odds) {
        if (odds < 0 || odds > MOST_ODDS) {
            return deny(BAD_NUMBER);
        }
        now.odds = odds;
        return grant();
    }

    // ---- MINUTES ahead

    public int firmIn(int mould, int minutes) {
        if (!now.isMould(mould)) {
            return refuse(NO_THING);
        }
        if (minutes < 0 || minutes > FARTHEST) {
            return refuse(BAD_NUMBER);
        }
        return answer(now.mouldRow[mould].firmAfter(now.heat, minutes));
    }

    public int lasts(int mould) {
        if (!now.isMould(mould)) {
            return refuse(NO_THING);
        }
        Mould one = now.mouldRow[mould];
        if (one.state != STANDS && !one.canBeTurnedOut()) {
            return refuse(CANNOT_BE);
        }
        int minutes = lasting(one.firm, one.height, now.heat);
        return minutes == FOR_EVER ? refuse(NOTHING) : answer(minutes);
    }

    public int waits(int mould, int minutes) {
        if (!now.isMould(mould)) {
            return refuse(NO_THING);
        }
        if (minutes < 0 || minutes > 99) {
            return refuse(BAD_NUMBER);
        }
        Mould one = now.mouldRow[mould];
        if (!one.canBeTurnedOut()) {
            return refuse(CANNOT_BE);
        }
        for (int wait = 0; wait <= FARTHEST; wait++) {
            if (lasting(one.firmAfter(now.heat, wait), one.height, now.heat) > minutes) {
                return answer(wait);
            }
        }
        return refuse(NOTHING);
    }

    public int fallIn() {
        int last = 0;
        for (int i = 0; i < now.moulds; i++) {
            Mould one = now.mouldRow[i];
            if (one.state == STANDS) {
                last = Math.max(last, lasting(one.firm, one.height, now.heat));
            }
        }
        return last > FARTHEST ? refuse(NOTHING) : answer(last);
    }

    // ---- mixtures

    public int mix(int mould, int k) {
        int why = mixTrouble(mould, k);
        return why == FINE ? answer(filler.bestCost) : refuse(why);
    }

    public int mixPart(int mould, int k, int stuff) {
        if (!now.isStuff(stuff)) {
            return refuse(NO_THING);
        }
        int why = mixTrouble(mould, k);
        return why == FINE ? answer(filler.best[stuff]) : refuse(why);
    }

    public int strongest(int mould) {
        if (!now.isMould(mould)) {
            return refuse(NO_THING);
        }
        filler.countWays(now, now.mouldRow[mould].room, true);
        int most = filler.greatestStrength();
        return most == NONE ? refuse(NOTHING) : answer(most);
    }

    public int fillings(int mould) {
        if (!now.isMould(mould)) {
            return refuse(NO_THING);
        }
        filler.countWays(now, now.mouldRow[mould].room, true);
        return answer(filler.allWays());
    }

    // ---- walks

    public int shaken(int place, int other) {
        if (!now.isPlace(place) || !now.isPlace(other)) {
            return refuse(NO_THING);
        }
        int shakes = now.shakesBetween(place, other);
        return shakes == NONE ? refuse(NOTHING) : answer(shakes);
    }

    public int way(int place, int other, int k) {
        if (!now.isPlace(place) || !now.isPlace(other)) {
            return refuse(NO_THING);
        }
        int there = now.placeOnWay(place, other, k);
        return there == NONE ? refuse(NOTHING) : answer(there);
    }

    public int reach(int mould) {
        if (!now.isMould(mould)) {
            return refuse(NO_THING);
        }
        Mould one = now.mouldRow[mould];
        if (one.state != STANDS) {
            return refuse(CANNOT_BE);
        }
        int set = 0;
        for (int p = 0; p < now.places; p++) {
            int shakes = now.shakesBetween(one.place, p);
            if (shakes != NONE && one.firm - shakes >= one.height) {
                set |= 1 << p;
            }
        }
        return answer(set);
    }

    // ---- what was in it

    public int fits(int mould, int tray, int n) {
        int why = fitsTrouble(mould, tray, n);
        if (why != FINE) {
            return refuse(why);
        }
        keepFits(mould, tray, n);
        return answer(filler.allWays());
    }

    public int fitsBy(int mould, int tray, int n, int what) {
        int why = fitsTrouble(mould, tray, n);
        if (why != FINE) {
            return refuse(why);
        }
        if (what < 0 || what > 1) {
            return refuse(BAD_NUMBER);
        }
        keepFits(mould, tray, n);
        int strength = what == 0 ? filler.leastStrength() : filler.greatestStrength();
        return strength == NONE ? refuse(NOTHING) : answer(strength);
    }

    public int ask(int mould, int tray, int n) {
        int why = fitsTrouble(mould, tray, n);
        if (why != FINE) {
            return refuse(why);
        }
        keepFits(mould, tray, n);
        if (filler.allWays() < 2) {
            return refuse(NOTHING);
        }
        return answer(filler.bestHeat(now.mouldRow[mould].height));
    }

    // ---- games, odds

    public int game(int mould, int other, int turns) {
        int why = gameTrouble(mould, other, turns);
        return why == FINE ? answer(player.play(now, mould, other, turns)) : refuse(why);
    }

    public int moveOf(int mould, int other, int turns) {
        int why = gameTrouble(mould, other, turns);
        if (why != FINE) {
            return refuse(why);
        }
        if (turns == 0) {
            return refuse(BAD_NUMBER);
        }
        player.play(now, mould, other, turns);
        return player.move == NONE ? refuse(NOTHING) : answer(player.move);
    }

    public boolean bubbles(int n, int k) {
        if (n < 0 || n > 12 || k < 0 || k > 12) {
            return deny(BAD_NUMBER);
        }
        long ways = 1;
        long sum = 0;
        for (int i = 0; i <= n; i++) {
            if (i >= k) {
                sum += ways * power(now.odds, i) * power(MOST_ODDS - now.odds, n - i);
            }
            ways = ways * (n - i) / (i + 1);
        }
        return tell(sum, power(MOST_ODDS, n));
    }

    public boolean poise(int mould) {
        if (!now.isMould(mould)) {
            return deny(NO_THING);
        }
        Mould one = now.mouldRow[mould];
        return one.state == STANDS ? tell(one.firm, one.height) : deny(CANNOT_BE);
    }

    // ---- FEASTS

    public int live(int seed) {
        if (seed < 0 || seed > LAST_SEED) {
            return refuse(BAD_NUMBER);
        }
        if (!now.program.there) {
            return refuse(NOTHING);
        }
        int minutes = now.minute;
        int falls = now.fallen();
        int spent = now.spent;
        living.run(now, seed);
        livedNumbers[0] = living.missed;
        livedNumbers[1] = now.minute - minutes;
        livedNumbers[2] = now.fallen() - falls;
        livedNumbers[3] = now.spent - spent;
        livedNumbers[4] = living.left;
        hasLived = true;
        return answer(living.steps);
    }

    public int lived(int what) {
        if (what < 0 || what > 4) {
            return refuse(BAD_NUMBER);
        }
        return hasLived ? answer(livedNumbers[what]) : refuse(NOTHING);
    }

    public boolean mean(int seed, int many) {
        if (seed < 0 || seed > LAST_SEED || many < 1 || many > 20 || seed + many - 1 > LAST_SEED) {
            return deny(BAD_NUMBER);
        }
        if (!now.program.there) {
            return deny(NOTHING);
        }
        int sum = 0;
        for (int i = 0; i < many; i++) {
            spare.copyOf(now);
            living.run(spare, seed + i);
            sum += spare.allFirm();
        }
        return tell(sum, many);
    }

    // ---- MARKS

    public int mark() {
        if (marked >= MARKS) {
            return refuse(TOO_MANY);
        }
        marks[marked].copyOf(now);
        marked++;
        return answer(marked);
    }

    public int back() {
        if (marked <= 0) {
            return refuse(NOTHING);
        }
        marked--;
        now.copyOf(marks[marked]);
        return answer(marked);
    }

    // ---- what the calls above share

    private int answer(int value) {
        status = FINE;
        return value;
    }

    private int refuse(int why) {
        status = why;
        return NONE;
    }

    private boolean grant() {
        status = FINE;
        return true;
    }

    private boolean deny(int why) {
        status = why;
        return false;
    }

    private boolean tell(long up, long down) {
        long divisor = commonDivisor(up, down);
        if (divisor > 0) {
            fractionTop = up / divisor;
            fractionBottom = down / divisor;
        }
        return grant();
    }

    /** The tape is used up by a text that was read, whether it was taken or not. */
    private boolean endText(boolean taken) {
        text.held = 0;
        faultKind = taken ? 0 : text.fault;
        faultPlace = taken ? NONE : text.place;
        return taken;
    }

    private int trayTrouble(int tray) {
        if (!isTray(tray)) {
            return NO_TRAY;
        }
        return trays[tray].there ? FINE : MISSING;
    }

    private int placeTrouble(int tray, int place) {
        int why = trayTrouble(tray);
        if (why != FINE) {
            return why;
        }
        return place < 0 || place >= trays[tray].length ? TOO_FEW : FINE;
    }

    private int mixTrouble(int mould, int k) {
        if (!now.isMould(mould)) {
            return NO_THING;
        }
        if (k < 0 || k > MOST_STRENGTH) {
            return BAD_NUMBER;
        }
        return filler.cheapest(now, now.mouldRow[mould].room, k) ? FINE : NOTHING;
    }

    private int fitsTrouble(int mould, int tray, int n) {
        if (!isTray(tray)) {
            return NO_TRAY;
        }
        if (!now.isMould(mould)) {
            return NO_THING;
        }
        Tray one = trays[tray];
        if (!one.there) {
            return MISSING;
        }
        if (n > one.length / 2) {
            return TOO_FEW;
        }
        if (n < 0 || n > 20) {
            return BAD_NUMBER;
        }
        for (int i = 0; i < n; i++) {
            long heat = one.numbers[2 * i];
            long minutes = one.numbers[2 * i + 1];
            if (heat < 1 || heat > MOST_HEAT || minutes < 0 || minutes > 99) {
                return BAD_NUMBER;
            }
        }
        return FINE;
    }

    private void keepFits(int mould, int tray, int n) {
        Mould one = now.mouldRow[mould];
        filler.countWays(now, one.room, false);
        for (int i = 0; i < n; i++) {
            int heat = (int) trays[tray].numbers[2 * i];
            int minutes = (int) trays[tray].numbers[2 * i + 1];
            filler.keepLasting(one.height, heat, minutes);
        }
    }

    private int gameTrouble(int mould, int other, int turns) {
        if (!now.isMould(mould) || !now.isMould(other)) {
            return NO_THING;
        }
        return mould == other || turns < 0 || turns > 4 ? BAD_NUMBER : FINE;
    }

    private static boolean isTray(int tray) {
        return tray >= 0 && tray < TRAYS;
    }

    /** Behind how many minutes one that is turned out so firm falls; 0 is at the knock. */
    private static int lasting(int firm, int height, int heat) {
        if (firm < height) {
            return 0;
        }
        return heat <= 0 ? FOR_EVER : (firm - height) / heat + 1;
    }

    private static long power(int base, int times) {
        long all = 1;
        for (int i = 0; i < times; i++) {
            all *= base;
        }
        return all;
    }

    private static long commonDivisor(long a, long b) {
        long big = a;
        long small = b;
        for (int i = 0; i < 200 && small != 0; i++) {
            long rest = big % small;
            big = small;
            small = rest;
        }
        return big;
    }

    /** A row of numbers, or none yet. */
    private static final class Tray {
        boolean there;
        int sort;
        int length;
        final long[] numbers = new long[TRAY_ROOM];

        void become(int newSort, int many) {
            there = true;
            sort = newSort;
            length = many;
            for (int i = 0; i < TRAY_ROOM; i++) {
                numbers[i] = 0;
            }
        }

        void put(int at, long v) {
            switch (sort) {
                case 0:
                    numbers[at] = (byte) v;
                    break;
                case 1:
                    numbers[at] = (short) v;
                    break;
                case 2:
                    numbers[at] = (int) v;
                    break;
                default:
                    numbers[at] = v;
                    break;
            }
        }
    }

    /** One mould, and what is in it. */
    private static final class Mould {
        int height;
        int room;
        int place;
        int state;
        int firm;
        int strength;
        int filled;
        int falls;
        final int[] parts = new int[MOST_STUFFS];

        void copyOf(Mould other) {
            height = other.height;
            room = other.room;
            place = other.place;
            state = other.state;
            firm = other.firm;
            strength = other.strength;
            filled = other.filled;
            falls = other.falls;
            System.arraycopy(other.parts, 0, parts, 0, MOST_STUFFS);
        }

        void makeVoid() {
            state = VOID;
            firm = 0;
            strength = 0;
            filled = 0;
            for (int i = 0; i < MOST_STUFFS; i++) {
                parts[i] = 0;
            }
        }

        void add(int stuff, int many, int set) {
            state = SETS;
            firm = 0;
            strength += many * set;
            filled += many;
            parts[stuff] += many;
        }

        boolean canBeTurnedOut() {
            return state == SETS && filled == room;
        }

        /** As much less firm, if it stands; it falls if that is too little. */
        void weaken(int by) {
            if (state != STANDS) {
                return;
            }
            firm -= by;
            if (firm < height) {
                makeVoid();
                falls++;
            }
        }

        // No mould's minutes touch another one's, so many minutes are reckoned as one.
        void rest(int heat, int minutes) {
            if (state == SETS) {
                firm = firmAfter(heat, minutes);
            }
            weaken(heat * minutes);
        }

        int firmAfter(int heat, int minutes) {
            if (state == SETS) {
                return Math.min(strength, firm + (MOST_HEAT - heat) * minutes);
            }
            int later = firm - heat * minutes;
            return state == STANDS && later >= height ? later : 0;
        }
    }

    /** A see with all that became of it, and its feasts. */
    private static final class See {
        int heat;
        int odds;
        int minute;
        int spent;
        int stuffs;
        int places;
        int moulds;
        int walks;
        int names;
        final int[] set = new int[MOST_STUFFS];
        final int[] cost = new int[MOST_STUFFS];
        final int[] stock = new int[MOST_STUFFS];
        final Mould[] mouldRow = new Mould[MOST_MOULDS];
        final int[] near = new int[MOST_PLACES * MOST_PLACES];
        final long[] nameRow = new long[MOST_NAMES];
        final int[] nameKind = new int[MOST_NAMES];
        final int[] nameIndex = new int[MOST_NAMES];
        final Feasts program = new Feasts();

        See() {
            for (int i = 0; i < MOST_MOULDS; i++) {
                mouldRow[i] = new Mould();
            }
            clear();
        }

        void clear() {
            heat = 3;
            odds = 2;
            minute = 0;
            spent = 0;
            stuffs = 0;
            places = 0;
            moulds = 0;
            walks = 0;
            names = 0;
            for (int i = 0; i < near.length; i++) {
                near[i] = i % (MOST_PLACES + 1) == 0 ? 0 : NO_WAY;
            }
            program.clear();
        }

        void copyOf(See other) {
            heat = other.heat;
            odds = other.odds;
            minute = other.minute;
            spent = other.spent;
            stuffs = other.stuffs;
            places = other.places;
            moulds = other.moulds;
            walks = other.walks;
            names = other.names;
            System.arraycopy(other.set, 0, set, 0, MOST_STUFFS);
            System.arraycopy(other.cost, 0, cost, 0, MOST_STUFFS);
            System.arraycopy(other.stock, 0, stock, 0, MOST_STUFFS);
            System.arraycopy(other.near, 0, near, 0, near.length);
            System.arraycopy(other.nameRow, 0, nameRow, 0, MOST_NAMES);
            System.arraycopy(other.nameKind, 0, nameKind, 0, MOST_NAMES);
            System.arraycopy(other.nameIndex, 0, nameIndex, 0, MOST_NAMES);
            for (int i = 0; i < moulds; i++) {
                mouldRow[i].copyOf(other.mouldRow[i]);
            }
            program.copyOf(other.program);
        }

        boolean isStuff(int stuff) {
            return stuff >= 0 && stuff < stuffs;
        }

        boolean isPlace(int place) {
            return place >= 0 && place < places;
        }

        boolean isMould(int mould) {
            return mould >= 0 && mould < moulds;
        }

        // -- names

        boolean isTaken(long name) {
            for (int i = 0; i < names; i++) {
                if (nameRow[i] == name) {
                    return true;
                }
            }
            return false;
        }

        int find(long name, int kind) {
            for (int i = 0; i < names; i++) {
                if (nameRow[i] == name && nameKind[i] == kind) {
                    return nameIndex[i];
                }
            }
            return NONE;
        }

        void addName(long name, int kind, int index) {
            if (names < MOST_NAMES) {
                nameRow[names] = name;
                nameKind[names] = kind;
                nameIndex[names] = index;
                names++;
            }
        }

        // -- walks: near has the single walks until joinWalks(), and the best ways from then on

        void addWalk(int a, int b, int shakes) {
            int length = shakes * SHAKE_UNIT + 1;
            near[a * MOST_PLACES + b] = Math.min(near[a * MOST_PLACES + b], length);
            near[b * MOST_PLACES + a] = near[a * MOST_PLACES + b];
            walks++;
        }

        int wayLength(int from, int to) {
            return near[from * MOST_PLACES + to];
        }

        int shakesBetween(int from, int to) {
            int length = wayLength(from, to);
            return length >= NO_WAY ? NONE : length / SHAKE_UNIT;
        }

        void joinWalks() {
            for (int via = 0; via < places; via++) {
                for (int a = 0; a < places; a++) {
                    for (int b = 0; b < places; b++) {
                        int length = wayLength(a, via) + wayLength(via, b);
                        near[a * MOST_PLACES + b] = Math.min(wayLength(a, b), length);
                    }
                }
            }
        }

        int placeOnWay(int from, int to, int k) {
            int length = wayLength(from, to);
            if (length >= NO_WAY || k < 0 || k > length % SHAKE_UNIT) {
                return NONE;
            }
            int here = from;
            for (int i = 0; i < k; i++) {
                here = stepTowards(here, to);
            }
            return here;
        }

        // A way of one walk from here on is a walk: a best way is made of best ways, walk by walk.
        int stepTowards(int here, int to) {
            int length = wayLength(here, to);
            for (int p = 0; p < places; p++) {
                int first = wayLength(here, p);
                if (first % SHAKE_UNIT == 1 && first < NO_WAY && first + wayLength(p, to) == length) {
                    return p;
                }
            }
            return here;
        }

        // -- what is done; false tells that it can't be, and nothing is changed then

        boolean pourInto(int mould, int stuff, int many) {
            Mould one = mouldRow[mould];
            if (one.state == STANDS || stock[stuff] < many || one.filled + many > one.room) {
                return false;
            }
            stock[stuff] -= many;
            spent += many * cost[stuff];
            one.add(stuff, many, set[stuff]);
            return true;
        }

        boolean voidOut(int mould) {
            if (mouldRow[mould].state == VOID) {
                return false;
            }
            mouldRow[mould].makeVoid();
            return true;
        }

        boolean turnOut(int mould) {
            Mould one = mouldRow[mould];
            if (!one.canBeTurnedOut()) {
                return false;
            }
            one.state = STANDS;
            one.weaken(0);
            return true;
        }

        boolean press(int mould) {
            Mould one = mouldRow[mould];
            if (one.state != STANDS) {
                return false;
            }
            one.weaken(one.height > 9 ? 2 : 1);
            return true;
        }

        boolean bring(int mould, int place) {
            Mould one = mouldRow[mould];
            int shakes = shakesBetween(one.place, place);
            if (one.place == place || shakes == NONE) {
                return false;
            }
            one.place = place;
            one.weaken(shakes);
            return true;
        }

        boolean passMinutes(int minutes) {
            if (minute + minutes > LAST_MINUTE) {
                return false;
            }
            for (int i = 0; i < moulds; i++) {
                mouldRow[i].rest(heat, minutes);
            }
            minute += minutes;
            return true;
        }

        boolean heatTo(int newHeat) {
            if (heat == newHeat) {
                return false;
            }
            heat = newHeat;
            return true;
        }

        // -- sums

        int fallen() {
            int sum = 0;
            for (int i = 0; i < moulds; i++) {
                sum += mouldRow[i].falls;
            }
            return sum;
        }

        int allFirm() {
            int sum = 0;
            for (int i = 0; i < moulds; i++) {
                sum += mouldRow[i].firm;
            }
            return sum;
        }

        int setOf(int state) {
            int set = 0;
            for (int i = 0; i < moulds; i++) {
                if (mouldRow[i].state == state) {
                    set |= 1 << i;
                }
            }
            return set;
        }
    }

    /** The ways to fill a mould, those with the most of the first stuffs first. */
    private static final class Fillings {
        int stuffs;
        int bestCost;
        final int[] parts = new int[MOST_STUFFS];
        final int[] most = new int[MOST_STUFFS];
        final int[] best = new int[MOST_STUFFS];
        final int[] ways = new int[MOST_STRENGTH + 1];
        final int[] groups = new int[MOST_STRENGTH + 2];

        private boolean begin(See see, int room, boolean byStock) {
            stuffs = see.stuffs;
            for (int i = 0; i < stuffs; i++) {
                most[i] = byStock ? Math.min(room, see.stock[i]) : room;
            }
            return fillFrom(0, room);
        }

        private boolean fillFrom(int first, int room) {
            int left = room;
            for (int i = first; i < stuffs; i++) {
                parts[i] = Math.min(most[i], left);
                left -= parts[i];
            }
            return left == 0;
        }

        private boolean goOn() {
            int behind = 0;
            int roomBehind = 0;
            for (int i = stuffs - 1; i >= 0; i--) {
                if (parts[i] > 0 && behind < roomBehind) {
                    parts[i]--;
                    return fillFrom(i + 1, behind + 1);
                }
                behind += parts[i];
                roomBehind += most[i];
            }
            return false;
        }

        private int sumBy(int[] worth) {
            int sum = 0;
            for (int i = 0; i < stuffs; i++) {
                sum += parts[i] * worth[i];
            }
            return sum;
        }

        boolean cheapest(See see, int room, int strength) {
            bestCost = NONE;
            boolean on = begin(see, room, true);
            for (int n = 0; on && n < MOST_FILLINGS; n++) {
                int cost = sumBy(see.cost);
                if ((bestCost == NONE || cost < bestCost) && sumBy(see.set) >= strength) {
                    bestCost = cost;
                    System.arraycopy(parts, 0, best, 0, stuffs);
                }
                on = goOn();
            }
            return bestCost != NONE;
        }

        void countWays(See see, int room, boolean byStock) {
            for (int s = 0; s <= MOST_STRENGTH; s++) {
                ways[s] = 0;
            }
            boolean on = begin(see, room, byStock);
            for (int n = 0; on && n < MOST_FILLINGS; n++) {
                int strength = sumBy(see.set);
                if (strength >= 0 && strength <= MOST_STRENGTH) {
                    ways[strength]++;
                }
                on = goOn();
            }
        }

        void keepLasting(int height, int heat, int minutes) {
            for (int s = 0; s <= MOST_STRENGTH; s++) {
                if (lasting(s, height, heat) != minutes) {
                    ways[s] = 0;
                }
            }
        }

        int allWays() {
            int sum = 0;
            for (int s = 0; s <= MOST_STRENGTH; s++) {
                sum += ways[s];
            }
            return sum;
        }

        int leastStrength() {
            for (int s = 0; s <= MOST_STRENGTH; s++) {
                if (ways[s] > 0) {
                    return s;
                }
            }
            return NONE;
        }

        int greatestStrength() {
            for (int s = MOST_STRENGTH; s >= 0; s--) {
                if (ways[s] > 0) {
                    return s;
                }
            }
            return NONE;
        }

        int bestHeat(int height) {
            int bestOne = 1;
            int fewest = greatestGroup(height, 1);
            for (int heat = 2; heat <= MOST_HEAT; heat++) {
                int size = greatestGroup(height, heat);
                if (size < fewest) {
                    fewest = size;
                    bestOne = heat;
                }
            }
            return bestOne;
        }

        private int greatestGroup(int height, int heat) {
            for (int i = 0; i < groups.length; i++) {
                groups[i] = 0;
            }
            int greatest = 0;
            for (int s = 0; s <= MOST_STRENGTH; s++) {
                int minutes = lasting(s, height, heat);
                if (minutes < groups.length) {
                    groups[minutes] += ways[s];
                    greatest = Math.max(greatest, groups[minutes]);
                }
            }
            return greatest;
        }
    }

    /** Two who pour by turns; who is 0 for the first, 1 for the second. */
    private static final class Game {
        int stuffs;
        int move;
        final int[] set = new int[MOST_STUFFS];
        final int[] stock = new int[MOST_STUFFS];
        final int[] left = new int[2];
        final int[] strength = new int[2];

        int play(See see, int mould, int other, int turns) {
            stuffs = see.stuffs;
            System.arraycopy(see.set, 0, set, 0, MOST_STUFFS);
            System.arraycopy(see.stock, 0, stock, 0, MOST_STUFFS);
            seat(0, see.mouldRow[mould]);
            seat(1, see.mouldRow[other]);
            move = NONE;
            return bestFrom(turns, 0);
        }

        private void seat(int who, Mould one) {
            left[who] = one.state == STANDS ? 0 : one.room - one.filled;
            strength[who] = one.strength;
        }

        // The turns get fewer by each call, and there are four at most.
        private int bestFrom(int turns, int who) {
            if (turns <= 0) {
                return strength[0] - strength[1];
            }
            int chosen = NONE;
            int best = bestFrom(turns - 1, 1 - who);
            for (int s = stuffs - 1; s >= 0; s--) {
                if (stock[s] > 0 && left[who] > 0) {
                    shift(who, s, 1);
                    int value = bestFrom(turns - 1, 1 - who);
                    shift(who, s, -1);
                    if (who == 0 ? value >= best : value <= best) {
                        best = value;
                        chosen = s;
                    }
                }
            }
            move = chosen;
            return best;
        }

        private void shift(int who, int s, int parts) {
            stock[s] -= parts;
            left[who] -= parts;
            strength[who] += parts * set[s];
        }
    }

    /** The tape, and the tokens of a text that begins it. */
    private static final class Text {
        int held;
        int length;
        int next;
        int at;
        int sort;
        int word;
        int value;
        long name;
        int fault;
        int place;
        final byte[] tape = new byte[TAPE_ROOM];

        boolean hasRoomForFive() {
            return held + 20 <= TAPE_ROOM;
        }

        void addFour(int bytes) {
            for (int shift = 24; shift >= 0; shift -= 8) {
                if (held < TAPE_ROOM) {
                    tape[held] = (byte) (bytes >> shift);
                    held++;
                }
            }
        }

        void open(int n) {
            length = n;
            next = 0;
            fault = 0;
            place = NONE;
            advance();
        }

        void advance() {
            int i = next;
            while (i < length && (tape[i] == 10 || tape[i] == 32)) {
                i++;
            }
            at = i;
            word = NONE;
            name = 0;
            value = i < length ? tape[i] : 0;
            if (i >= length) {
                sort = AT_END;
                next = i;
            } else if (value >= 'a' && value <= 'z') {
                scanWord();
            } else if (value >= '0' && value <= '9') {
                scanNumber();
            } else {
                sort = value == ';' || value == '<' || value == '>' || value == '=' ? SIGN : NO_TOKEN;
                next = i + 1;
            }
        }

        private void scanWord() {
            int i = at;
            while (i < length && tape[i] >= 'a' && tape[i] <= 'z') {
                name = name << 8 | tape[i];
                i++;
            }
            sort = WORD;
            next = i;
            // No name is longer, and no longer word could be told from its end.
            if (i - at > 8) {
                name = 0;
            }
            for (int k = 0; k < KEPT_WORDS.length; k++) {
                if (KEPT_WORDS[k] == name) {
                    word = k;
                }
            }
        }

        private void scanNumber() {
            int i = at;
            value = 0;
            while (i < length && tape[i] >= '0' && tape[i] <= '9') {
                if (i - at < 4) {
                    value = value * 10 + tape[i] - '0';
                }
                i++;
            }
            sort = i - at > 4 ? NO_TOKEN : NUMBER;
            next = i;
        }

        // -- what must stand next; the first fault stays, and what is answered behind one is of no worth

        boolean isWell() {
            return fault == 0;
        }

        void fail(int kind) {
            if (fault == 0) {
                fault = sort == NO_TOKEN ? FAULT_TOKEN : kind;
                place = at;
            }
        }

        void takeWord(int kept) {
            if (word == kept) {
                advance();
            } else {
                fail(FAULT_ORDER);
            }
        }

        void takeStop() {
            if (sort == SIGN && value == ';') {
                advance();
            } else {
                fail(FAULT_ORDER);
            }
        }

        int takeCompare() {
            int compare = value;
            if (sort == SIGN && value != ';') {
                advance();
            } else {
                fail(FAULT_ORDER);
            }
            return compare;
        }

        int takeNumber(int least, int most) {
            int number = value;
            if (sort != NUMBER) {
                fail(FAULT_ORDER);
            } else if (number < least || number > most) {
                fail(FAULT_NUMBER);
            } else {
                advance();
            }
            return number;
        }

        boolean isName() {
            return sort == WORD && word == NONE && name != 0;
        }

        int takeThing(See see, int kind) {
            int index = see.find(name, kind);
            if (!isName()) {
                fail(FAULT_ORDER);
            } else if (index == NONE) {
                fail(FAULT_NAME);
            } else {
                advance();
            }
            return index;
        }

        void takeNewName(See see, int kind, int index) {
            if (!isName()) {
                fail(FAULT_ORDER);
            } else if (see.isTaken(name)) {
                fail(FAULT_NAME);
            } else {
                see.addName(name, kind, index);
                advance();
            }
        }
    }

    /** Reads the text of a see into one that may be spoilt. */
    private static final class SeeReader {
        Text text;
        See see;
        boolean heatTold;
        boolean oddsTold;

        boolean take(Text from, See into) {
            text = from;
            see = into;
            heatTold = false;
            oddsTold = false;
            see.clear();
            for (int i = 0; i <= TAPE_ROOM && text.isWell() && text.sort != AT_END; i++) {
                takePart();
                text.takeStop();
            }
            see.joinWalks();
            return text.isWell();
        }

        private void takePart() {
            switch (text.word) {
                case W_HEAT:
                    takeHeat();
                    break;
                case W_ODDS:
                    takeOdds();
                    break;
                case W_STUFF:
                    takeStuff(see.stuffs);
                    break;
                case W_PLACE:
                    takePlace(see.places);
                    break;
                case W_WALK:
                    takeWalk();
                    break;
                case W_MOULD:
                    takeMould(see.moulds);
                    break;
                default:
                    text.fail(FAULT_ORDER);
                    break;
            }
        }

        private void takeHeat() {
            if (heatTold) {
                text.fail(FAULT_AGAIN);
                return;
            }
            heatTold = true;
            text.advance();
            see.heat = text.takeNumber(0, MOST_HEAT);
        }

        private void takeOdds() {
            if (oddsTold) {
                text.fail(FAULT_AGAIN);
                return;
            }
            oddsTold = true;
            text.advance();
            see.odds = text.takeNumber(0, MOST_ODDS);
        }

        private void takeStuff(int index) {
            if (index >= MOST_STUFFS) {
                text.fail(FAULT_MANY);
                return;
            }
            text.advance();
            text.takeNewName(see, A_STUFF, index);
            text.takeWord(W_SETS);
            see.set[index] = text.takeNumber(0, 9);
            text.takeWord(W_COSTS);
            see.cost[index] = text.takeNumber(0, 99);
            see.stock[index] = 20;
            if (text.word == W_STOCK) {
                text.advance();
                see.stock[index] = text.takeNumber(0, 99);
            }
            see.stuffs++;
        }

        private void takePlace(int index) {
            if (index >= MOST_PLACES) {
                text.fail(FAULT_MANY);
                return;
            }
            text.advance();
            text.takeNewName(see, A_PLACE, index);
            see.places++;
        }

        private void takeWalk() {
            if (see.walks >= MOST_WALKS) {
                text.fail(FAULT_MANY);
                return;
            }
            text.advance();
            int a = text.takeThing(see, A_PLACE);
            if (text.isName() && a != NONE && a == see.find(text.name, A_PLACE)) {
                text.fail(FAULT_AGAIN);
            }
            int b = text.takeThing(see, A_PLACE);
            text.takeWord(W_SHAKES);
            int shakes = text.takeNumber(0, 9);
            if (text.isWell()) {
                see.addWalk(a, b, shakes);
            }
        }

        private void takeMould(int index) {
            if (index >= MOST_MOULDS) {
                text.fail(FAULT_MANY);
                return;
            }
            Mould one = see.mouldRow[index];
            one.makeVoid();
            one.falls = 0;
            text.advance();
            text.takeNewName(see, A_MOULD, index);
            text.takeWord(W_HIGH);
            one.height = text.takeNumber(1, 30);
            text.takeWord(W_HOLDS);
            one.room = text.takeNumber(1, 9);
            text.takeWord(W_AT);
            one.place = text.takeThing(see, A_PLACE);
            see.moulds++;
        }
    }

    /** Feasts, line by line; a when stands as the word of its test, and an end is a line too. */
    private static final class Feasts {
        boolean there;
        int steps;
        int lines;
        final int[] deed = new int[MOST_LINES];
        final int[] first = new int[MOST_LINES];
        final int[] second = new int[MOST_LINES];
        final int[] number = new int[MOST_LINES];
        // Of a when, a loop: its end; of an end: where it began.
        final int[] partner = new int[MOST_LINES];

        void clear() {
            there = false;
            steps = 0;
            lines = 0;
        }

        void copyOf(Feasts other) {
            there = other.there;
            steps = other.steps;
            lines = other.lines;
            System.arraycopy(other.deed, 0, deed, 0, lines);
            System.arraycopy(other.first, 0, first, 0, lines);
            System.arraycopy(other.second, 0, second, 0, lines);
            System.arraycopy(other.number, 0, number, 0, lines);
            System.arraycopy(other.partner, 0, partner, 0, lines);
        }
    }

    /** Reads the text of feasts by the names of a see. */
    private static final class FeastsReader {
        Text text;
        See see;
        Feasts out;
        int nested;
        final int[] open = new int[MOST_NESTED];

        boolean take(Text from, See names, Feasts into) {
            text = from;
            see = names;
            out = into;
            out.clear();
            out.there = true;
            nested = 0;
            for (int i = 0; i <= TAPE_ROOM && text.isWell() && text.sort != AT_END; i++) {
                if (text.word == W_END) {
                    takeClose(out.lines);
                } else {
                    takeStep(text.word, out.lines);
                }
            }
            if (nested > 0) {
                text.fail(FAULT_ORDER);
            }
            return text.isWell();
        }

        private void takeClose(int line) {
            if (nested <= 0 || line >= MOST_LINES) {
                text.fail(FAULT_ORDER);
                return;
            }
            nested--;
            int began = open[nested];
            out.partner[began] = line;
            out.partner[line] = began;
            out.deed[line] = W_END;
            out.lines++;
            text.advance();
            text.takeStop();
        }

        private void takeStep(int kept, int line) {
            boolean opens = kept == W_WHEN || kept == W_LOOP;
            if (!beginsStep(kept)) {
                text.fail(FAULT_ORDER);
            } else if (out.steps >= MOST_STEPS || line >= MOST_LINES) {
                text.fail(FAULT_MANY);
            } else if (opens && nested >= MOST_NESTED) {
                text.fail(FAULT_NESTED);
            } else {
                if (opens) {
                    open[nested] = line;
                    nested++;
                }
                out.deed[line] = kept;
                out.steps++;
                out.lines++;
                text.advance();
                if (kept == W_WHEN) {
                    takeTest(text.word, line);
                } else {
                    takeRest(kept, line);
                }
                text.takeStop();
            }
        }

        private static boolean beginsStep(int kept) {
            switch (kept) {
                case W_POUR:
                case W_VOID:
                case W_KNOCK:
                case W_TOUCH:
                case W_CARRY:
                case W_MINUTE:
                case W_HEAT:
                case W_ANY:
                case W_WHEN:
                case W_LOOP:
                case W_STOP:
                    return true;
                default:
                    return false;
            }
        }

        private void takeRest(int kept, int line) {
            switch (kept) {
                case W_POUR:
                    out.first[line] = text.takeThing(see, A_MOULD);
                    out.second[line] = text.takeThing(see, A_STUFF);
                    out.number[line] = text.takeNumber(1, 9);
                    break;
                case W_VOID:
                case W_KNOCK:
                case W_TOUCH:
                    out.first[line] = text.takeThing(see, A_MOULD);
                    break;
                case W_CARRY:
                    out.first[line] = text.takeThing(see, A_MOULD);
                    out.second[line] = text.takeThing(see, A_PLACE);
                    break;
                case W_MINUTE:
                    out.number[line] = text.takeNumber(1, 60);
                    break;
                case W_HEAT:
                    out.number[line] = text.takeNumber(0, MOST_HEAT);
                    break;
                case W_LOOP:
                    out.number[line] = text.takeNumber(1, 99);
                    break;
                default:
                    break;
            }
        }

        private void takeTest(int test, int line) {
            if (test != W_STANDS && test != W_FIRM && test != W_AT) {
                text.fail(FAULT_ORDER);
                return;
            }
            out.deed[line] = test;
            text.advance();
            out.first[line] = text.takeThing(see, A_MOULD);
            if (test == W_FIRM) {
                out.second[line] = text.takeCompare();
                out.number[line] = text.takeNumber(0, 99);
            } else if (test == W_AT) {
                out.second[line] = text.takeThing(see, A_PLACE);
            }
        }
    }

    /** The feasts of a see as they are lived, by draws. */
    private static final class Living {
        See see;
        Feasts program;
        int drawn;
        int steps;
        int missed;
        int left;
        final int[] rounds = new int[MOST_LINES];

        void run(See one, int seed) {
            see = one;
            program = one.program;
            drawn = seed;
            steps = 0;
            missed = 0;
            left = 0;
            int line = 0;
            // Between two steps there are a few ends at most, so this is far more than can be needed.
            for (int i = 0; i < 1000000 && line < program.lines; i++) {
                int deed = program.deed[line];
                if (deed == W_END) {
                    line = behindEnd(line);
                    continue;
                }
                if (steps >= MOST_LIVED) {
                    left = 1;
                    return;
                }
                steps++;
                if (deed == W_STOP) {
                    return;
                }
                if (deed == W_LOOP) {
                    line = behindLoop(line);
                } else if (deed == W_STANDS || deed == W_FIRM || deed == W_AT) {
                    line = holds(line, deed) ? line + 1 : program.partner[line] + 1;
                } else {
                    missed += happens(line, deed) ? 0 : 1;
                    line++;
                }
            }
        }

        private int behindLoop(int line) {
            rounds[line] = program.number[line];
            // Going round where nothing is would only take time.
            return program.partner[line] == line + 1 ? line + 2 : line + 1;
        }

        private int behindEnd(int line) {
            int began = program.partner[line];
            if (program.deed[began] != W_LOOP) {
                return line + 1;
            }
            rounds[began]--;
            return rounds[began] > 0 ? began + 1 : line + 1;
        }

        private boolean holds(int line, int test) {
            Mould one = see.mouldRow[program.first[line]];
            if (test == W_STANDS) {
                return one.state == STANDS;
            }
            if (test == W_AT) {
                return one.place == program.second[line];
            }
            int number = program.number[line];
            switch (program.second[line]) {
                case '<':
                    return one.firm < number;
                case '>':
                    return one.firm > number;
                default:
                    return one.firm == number;
            }
        }

        private boolean happens(int line, int deed) {
            int mould = program.first[line];
            switch (deed) {
                case W_POUR:
                    return see.pourInto(mould, program.second[line], program.number[line]);
                case W_VOID:
                    return see.voidOut(mould);
                case W_KNOCK:
                    return see.turnOut(mould);
                case W_TOUCH:
                    return see.press(mould);
                case W_CARRY:
                    return see.bring(mould, program.second[line]);
                case W_MINUTE:
                    return see.passMinutes(program.number[line]);
                case W_HEAT:
                    return see.heatTo(program.number[line]);
                default:
                    int touched = drawTouched();
                    return touched != NONE && see.press(touched);
            }
        }

        /** Both draws are made whatever the first one finds; NONE if none is to be touched. */
        private int drawTouched() {
            if (see.moulds <= 0) {
                return NONE;
            }
            int mould = draw(see.moulds);
            return draw(16) < see.odds ? mould : NONE;
        }

        private int draw(int by) {
            drawn = (drawn * 2971 + 10867) % 65536;
            return by > 0 ? drawn / 8 % by : 0;
        }
    }
}
