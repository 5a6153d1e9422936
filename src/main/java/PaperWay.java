import java.util.Arrays;

/** A machine that copies on paper: see README.md for its use and ../shared/DOC.md for what it promises. */
public final class PaperWay {
    public static final int NONE = -1;

    private static final int NO_SUCH = -2;
    private static final int BAD_NUMBER = -3;
    private static final int TOO_MANY = -4;
    private static final int NOT_NOW = -5;
    private static final int ROW_MISSING = -6;
    private static final int ROW_SHORT = -7;
    private static final long NOT_WRITTEN = -1000000L;

    private static final int FAULT_BASE = -10;
    private static final int MOST_TICKS = 300;
    private static final int SHORTEST = 10;
    private static final int LONGEST = 60;
    /** Beyond any place on a way, in tenths of a step. */
    private static final int FAR = 1000000;

    private final Reader reader = new Reader();
    private final Flaws flaws = new Flaws();
    private final Traffic traffic = new Traffic();
    private final Causes causes = new Causes();
    private final Job job = new Job();
    private final Job[] images = {new Job(), new Job()};
    private final boolean[] imageMade = new boolean[2];
    private final Planner planner = new Planner();
    private final Keeper keeper = new Keeper();
    private final Rounds rounds = new Rounds();
    private final Memory memory = new Memory();
    private Way way = new Way();
    private Way spareWay = new Way();

    public PaperWay() {
        traffic.start(way, flaws);
    }

    // ---- the way

    public int feed(int a, int b, int c, int d, int e) {
        if (!reader.hasRoomForFive()) {
            return NONE;
        }
        reader.append(a);
        reader.append(b);
        reader.append(c);
        reader.append(d);
        reader.append(e);
        return reader.size;
    }

    public int text(int n) {
        if (n < 0 || n > reader.size) {
            return NO_SUCH;
        }
        spareWay.reset();
        int lines = reader.readWay(spareWay, n);
        reader.size = 0;
        if (reader.faultKind != 0) {
            return FAULT_BASE - reader.faultKind;
        }
        Way old = way;
        way = spareWay;
        spareWay = old;
        flaws.reset();
        traffic.start(way, flaws);
        causes.dropObserved();
        return lines;
    }

    public int fault(int what) {
        switch (what) {
            case 0:
                return reader.faultKind;
            case 1:
                return reader.faultPlace;
            default:
                return NONE;
        }
    }

    public int set(int roller, int what, int v) {
        if (!way.hasRoller(roller) || what < 0 || what > 1) {
            return NO_SUCH;
        }
        return what == 0 ? flaws.changeWear(roller, v) : flaws.changeBeat(roller, v);
    }

    public boolean corner(int place, boolean is) {
        if (place < 1 || place > way.length) {
            return false;
        }
        return is ? flaws.leaveCorner(place) : flaws.takeCorner(place);
    }

    public int lay(int length, boolean turned) {
        if (!isSheetLength(length)) {
            return BAD_NUMBER;
        }
        if (traffic.isFull()) {
            return TOO_MANY;
        }
        if (turned && way.turn == 0 || way.rollers == 0) {
            return NOT_NOW;
        }
        return traffic.isFreeFor(length) ? traffic.begin(length, turned) : NOT_NOW;
    }

    public int tick(int n) {
        if (n < 0 || n > MOST_TICKS) {
            return BAD_NUMBER;
        }
        int done = 0;
        while (done < n && traffic.jammed == NONE) {
            traffic.goOnce();
            done++;
        }
        return done;
    }

    public int sheet(int sheet, int what) {
        if (sheet < 0 || sheet >= traffic.sheets) {
            return NO_SUCH;
        }
        switch (what) {
            case 0:
                return traffic.state[sheet];
            case 1:
                return traffic.head[sheet];
            case 2:
                return traffic.tailOf(sheet);
            case 3:
                return traffic.side[sheet];
            case 4:
                return traffic.stood[sheet];
            default:
                return NO_SUCH;
        }
    }

    public int clear(boolean corner) {
        int jammed = traffic.jammed;
        if (jammed < 0 || jammed >= traffic.sheets) {
            return NOT_NOW;
        }
        if (corner) {
            int place = traffic.head[jammed] / 10;
            flaws.leaveCorner(Math.max(1, Math.min(way.length, place)));
        }
        return traffic.takeAll();
    }

    public int sees(int eye) {
        if (!way.hasEye(eye)) {
            return NO_SUCH;
        }
        return traffic.watch.seeing[eye] ? 1 : 0;
    }

    public int passing(int eye, int i, int what) {
        if (!way.hasEye(eye) || i < 0 || i >= traffic.watch.passings[eye]) {
            return NO_SUCH;
        }
        switch (what) {
            case 0:
                return traffic.watch.from[eye * Watch.MOST + i];
            case 1:
                return traffic.watch.to[eye * Watch.MOST + i];
            default:
                return NO_SUCH;
        }
    }

    // ---- causes

    public boolean saw(int eye, int on, int off) {
        return way.hasEye(eye) && causes.observe(eye, on, off);
    }

    public int forget() {
        return causes.dropObserved();
    }

    public int explain(int length, int k) {
        if (!isSheetLength(length)) {
            return BAD_NUMBER;
        }
        if (way.rollers == 0) {
            return NOT_NOW;
        }
        causes.seek(way, length);
        if (k == NONE) {
            return causes.found;
        }
        if (k < 0 || k >= causes.found) {
            return NONE;
        }
        return k == 0 ? causes.first : causes.second;
    }

    public int foretold(int roller, int grow, int length) {
        if (!way.hasRoller(roller)) {
            return NO_SUCH;
        }
        if (grow < 0 || grow > 100 || !isSheetLength(length)) {
            return BAD_NUMBER;
        }
        return causes.firstToFail(way, flaws, roller, grow, length);
    }

    public int crease(int length, int a, int b, int c, int i) {
        if (!isSheetLength(length) || !isCreaseRow(a, b, c)) {
            return BAD_NUMBER;
        }
        int fitting = 0;
        for (int h = 1; h <= way.length; h++) {
            if (way.creasesAre(h, length, a, b, c)) {
                if (fitting == i) {
                    return h;
                }
                fitting++;
            }
        }
        return i == NONE ? fitting : NONE;
    }

    // ---- the set

    public int page(int kind, boolean both) {
        if (kind < 0 || kind >= Job.KINDS) {
            return BAD_NUMBER;
        }
        if (job.pages >= Job.MOST_PAGES) {
            return TOO_MANY;
        }
        if (job.stacked > 0) {
            return NOT_NOW;
        }
        planner.fresh = false;
        keeper.fresh = false;
        return job.addPage(kind, both);
    }

    public boolean tray(int tray, int kind, boolean paper) {
        if (tray < 0 || tray >= Job.TRAYS || kind < 0 || kind >= Job.KINDS) {
            return false;
        }
        job.trayKind[tray] = kind;
        job.trayPaper[tray] = paper;
        planner.fresh = false;
        return true;
    }

    public boolean pocket(int hold, int rest) {
        if (hold < 1 || hold > 3 || rest < 0 || rest > 4) {
            return false;
        }
        job.hold = hold;
        job.rest = rest;
        planner.fresh = false;
        return true;
    }

    public boolean heat(int first, int need, int cost, int gain) {
        boolean can = first >= 0 && first <= Job.MOST_HEAT && need >= 0 && need <= Job.MOST_HEAT
                && cost >= 0 && cost <= 10 && gain >= 1 && gain <= 10;
        if (can) {
            job.heatFirst = first;
            job.heatNeed = need;
            job.heatCost = cost;
            job.heatGain = gain;
            planner.fresh = false;
        }
        return can;
    }

    public int plan(int k) {
        planner.seek(job);
        if (k == NONE) {
            return planner.slots;
        }
        return k >= 0 && k < planner.slots ? planner.acts[k] : NONE;
    }

    public int copies(int n) {
        if (n < 1 || n > Job.MOST_COPIES) {
            return BAD_NUMBER;
        }
        int old = job.copyNumber;
        job.copyNumber = n;
        keeper.fresh = false;
        return old;
    }

    public int out(int page) {
        if (page < 0 || page >= job.pages) {
            return NO_SUCH;
        }
        if (job.stacked >= Job.MOST_STACK) {
            return TOO_MANY;
        }
        job.stack[job.stacked] = page;
        job.stacked++;
        keeper.fresh = false;
        return job.stacked;
    }

    public int empty() {
        int old = job.stacked;
        job.stacked = 0;
        keeper.fresh = false;
        return old;
    }

    public int again(int what) {
        keeper.pair(job);
        switch (what) {
            case 0:
                return keeper.wanted - keeper.pairs;
            case 1:
                return job.stacked - keeper.pairs;
            case 2:
                return keeper.wholeCopies(job);
            default:
                return NONE;
        }
    }

    public int lack(int i) {
        keeper.pair(job);
        return keeper.lackingPlace(i);
    }

    public int kept(int place) {
        keeper.pair(job);
        return place >= 0 && place < keeper.wanted ? keeper.paired[place] : NONE;
    }

    public int pay(int n, int a, int b) {
        if (n < 0 || n > 1000 || a < 0 || a > 100 || b < 0 || b > 100) {
            return NONE;
        }
        int sides = job.stackSides();
        int dear = Math.min(sides, n);
        return dear * a + (sides - dear) * b;
    }

    // ---- service, memory

    public boolean part(int roller, int cost, int weeks, int age) {
        if (roller < 0 || roller >= Job.PARTS || cost < 0 || cost > 99) {
            return false;
        }
        if (weeks < 1 || weeks > 12 || age < 0 || age > 12) {
            return false;
        }
        job.partCost[roller] = cost;
        job.partWeeks[roller] = weeks;
        job.partAge[roller] = age;
        job.partTold[roller] = true;
        rounds.weeks = NONE;
        return true;
    }

    public int service(int n, int price, int what) {
        if (n < 1 || n > 10 || price < 0 || price > 999) {
            return NONE;
        }
        rounds.seek(job, n, price);
        switch (what) {
            case 0:
                return rounds.total;
            case 1:
                return rounds.visits;
            case 2:
                return rounds.renewed;
            default:
                return NONE;
        }
    }

    public int row(int row, int sort, int n) {
        if (row < 0 || row >= Memory.ROWS || sort < 0 || sort > 3 || n > Memory.LONGEST_ROW) {
            return NO_SUCH;
        }
        if (n < 0) {
            return BAD_NUMBER;
        }
        memory.make(row, sort, n);
        return 0;
    }

    public long write(int row, int i, long v) {
        if (row < 0 || row >= Memory.ROWS || i < 0 || i >= memory.size[row]) {
            return NOT_WRITTEN;
        }
        memory.number[row][i] = Memory.cut(v, memory.sort[row]);
        return memory.number[row][i];
    }

    public int save(int row) {
        if (row < 0 || row >= Memory.ROWS) {
            return NO_SUCH;
        }
        if (memory.size[row] == NONE) {
            return ROW_MISSING;
        }
        if (memory.size[row] < job.stacked) {
            return ROW_SHORT;
        }
        for (int i = 0; i < job.stacked; i++) {
            memory.number[row][i] = job.stack[i];
        }
        return job.stacked;
    }

    public int load(int row, int n) {
        if (row < 0 || row >= Memory.ROWS) {
            return NO_SUCH;
        }
        if (memory.size[row] == NONE) {
            return ROW_MISSING;
        }
        if (n < 0 || n > memory.size[row]) {
            return ROW_SHORT;
        }
        if (!memory.tellsPages(row, n, job.pages)) {
            return NOT_NOW;
        }
        for (int i = 0; i < n; i++) {
            job.stack[i] = (int) memory.number[row][i];
        }
        job.stacked = n;
        keeper.fresh = false;
        return n;
    }

    public boolean image(int i) {
        if (i < 0 || i >= images.length) {
            return false;
        }
        images[i].becomeLike(job);
        imageMade[i] = true;
        return true;
    }

    public boolean restore(int i) {
        if (i < 0 || i >= images.length || !imageMade[i]) {
            return false;
        }
        job.becomeLike(images[i]);
        planner.fresh = false;
        keeper.fresh = false;
        rounds.weeks = NONE;
        return true;
    }

    public int count(int what) {
        switch (what) {
            case 0:
                return way.rollers;
            case 1:
                return way.eyes;
            case 2:
                return way.length;
            case 3:
                return traffic.now;
            case 4:
                return traffic.sheets;
            case 5:
                return traffic.pocketed;
            case 6:
                return traffic.jammed;
            case 7:
                return flaws.corners;
            case 8:
                return causes.observed;
            default:
                return countOfSet(what);
        }
    }

    private int countOfSet(int what) {
        switch (what) {
            case 9:
                return job.pages;
            case 10:
                return job.copyNumber;
            case 11:
                return job.stacked;
            case 12:
                return reader.size;
            default:
                return NO_SUCH;
        }
    }

    private static boolean isSheetLength(int length) {
        return length >= SHORTEST && length <= LONGEST;
    }

    private static boolean isCreaseRow(int a, int b, int c) {
        return isCrease(a) && isCrease(b) && isCrease(c) && falls(a, b) && falls(b, c);
    }

    private static boolean isCrease(int steps) {
        return steps >= NONE && steps <= LONGEST;
    }

    private static boolean falls(int steps, int behind) {
        return behind < steps || steps == NONE && behind == NONE;
    }

    /** What a TEXT tells: where rollers, eyes and the turn are. */
    private static final class Way {
        static final int MOST_ROLLERS = 10;
        static final int MOST_EYES = 19;

        int length;
        int rollers;
        final int[] rollerPlace = new int[MOST_ROLLERS];
        final int[] speed = new int[MOST_ROLLERS];
        int eyes;
        final int[] eyePlace = new int[MOST_EYES];
        /** 0 stands for no turn, as a turn is at place 2 at least. */
        int turn;
        int back;
        int hold;
        int rest;
        int damp;
        boolean dampTold;

        Way() {
            reset();
        }

        void reset() {
            length = 100;
            rollers = 0;
            eyes = 0;
            turn = 0;
            back = 0;
            hold = 0;
            rest = 0;
            damp = 0;
            dampTold = false;
        }

        boolean hasRoller(int roller) {
            return roller >= 0 && roller < rollers;
        }

        boolean hasEye(int eye) {
            return eye >= 0 && eye < eyes;
        }

        int lastRollerPlace() {
            return rollers == 0 ? 0 : rollerPlace[rollers - 1];
        }

        int lastEyePlace() {
            return eyes == 0 ? 0 : eyePlace[eyes - 1];
        }

        boolean creasesAre(int h, int sheetLength, int a, int b, int c) {
            int met = 0;
            for (int r = 0; r < rollers; r++) {
                int steps = h - rollerPlace[r];
                if (steps >= 0 && steps < sheetLength) {
                    int due = met == 0 ? a : met == 1 ? b : met == 2 ? c : NONE;
                    if (due != steps) {
                        return false;
                    }
                    met++;
                }
            }
            // a row that tells more creases than there are rollers under the sheet doesn't fit
            int told = a == NONE ? 0 : b == NONE ? 1 : c == NONE ? 2 : 3;
            return met == told;
        }
    }

    /** The tape, and the reading of a TEXT from it. */
    private static final class Reader {
        static final int TAPE = 400;
        static final int BYTES_OF_FIVE = 20;

        static final int END = 0;
        static final int BAD = 1;
        static final int NUMBER = 2;
        static final int SEMICOLON = 3;
        static final int OTHER_WORD = 4;
        static final int WAY = 5;
        static final int ROLLER = 6;
        static final int SPEED = 7;
        static final int EYE = 8;
        static final int TURN = 9;
        static final int BACK = 10;
        static final int HOLD = 11;
        static final int REST = 12;
        static final int DAMP = 13;

        static final int NO_TOKEN = 1;
        static final int MISPLACED = 2;
        static final int OUT_OF_BOUNDS = 3;
        static final int SECOND = 4;
        static final int ONE_TOO_MANY = 5;

        final byte[] tape = new byte[TAPE];
        int size;
        int faultKind;
        int faultPlace = NONE;
        private final int[] kind = new int[TAPE + 1];
        private final int[] place = new int[TAPE + 1];
        private final int[] value = new int[TAPE + 1];
        private int tokens;
        private int current;
        private int end;
        private int at;

        boolean hasRoomForFive() {
            return size <= TAPE - BYTES_OF_FIVE;
        }

        void append(int word) {
            for (int shift = 24; shift >= 0; shift -= 8) {
                if (size < TAPE) {
                    tape[size] = (byte) (word >> shift);
                    size++;
                }
            }
        }

        /** How many lines there are; the way is whole only where no fault is found. */
        int readWay(Way way, int n) {
            splitTokens(Math.min(n, size));
            current = 0;
            faultKind = 0;
            faultPlace = NONE;
            int lines = 0;
            while (lines < tokens && faultKind == 0 && kind[current] != END) {
                readLine(way, lines == 0);
                lines++;
            }
            if (way.rollers == 0) {
                blame(MISPLACED);
            }
            return lines;
        }

        /** The last token is the end, or one that can't begin so: nothing behind that counts. */
        private void splitTokens(int n) {
            end = n;
            at = 0;
            tokens = 0;
            boolean more = true;
            while (more && tokens <= TAPE) {
                while (at < end && isBlank(tape[at])) {
                    at++;
                }
                place[tokens] = at;
                kind[tokens] = nextKind();
                more = kind[tokens] != END && kind[tokens] != BAD;
                tokens++;
            }
        }

        private int nextKind() {
            if (at >= end) {
                return END;
            }
            byte sign = tape[at];
            if (isLetter(sign)) {
                return nextWord();
            }
            if (isDigit(sign)) {
                return nextNumber();
            }
            at++;
            return sign == ';' ? SEMICOLON : BAD;
        }

        private int nextNumber() {
            int start = at;
            int sum = 0;
            while (at < end && isDigit(tape[at])) {
                // with more than three digits it is no number at all, so that the sum may be cut there
                sum = Math.min(9999, sum * 10 + (tape[at] - '0'));
                at++;
            }
            value[tokens] = sum;
            return at - start > 3 ? BAD : NUMBER;
        }

        private int nextWord() {
            int start = at;
            while (at < end && isLetter(tape[at])) {
                at++;
            }
            switch (at - start) {
                case 3:
                    return isAt(start, "way") ? WAY : isAt(start, "eye") ? EYE : OTHER_WORD;
                case 4:
                    return wordOfFour(start);
                case 5:
                    return isAt(start, "speed") ? SPEED : OTHER_WORD;
                case 6:
                    return isAt(start, "roller") ? ROLLER : OTHER_WORD;
                default:
                    return OTHER_WORD;
            }
        }

        private int wordOfFour(int start) {
            if (isAt(start, "turn")) {
                return TURN;
            }
            if (isAt(start, "back")) {
                return BACK;
            }
            if (isAt(start, "hold")) {
                return HOLD;
            }
            if (isAt(start, "rest")) {
                return REST;
            }
            return isAt(start, "damp") ? DAMP : OTHER_WORD;
        }

        private boolean isAt(int start, String word) {
            int length = word.length();
            if (start + length > end) {
                return false;
            }
            for (int i = 0; i < length; i++) {
                if (tape[start + i] != word.charAt(i)) {
                    return false;
                }
            }
            return true;
        }

        private void readLine(Way way, boolean atBeginning) {
            switch (kind[current]) {
                case WAY:
                    if (atBeginning) {
                        way.length = readNumber(40, 300);
                    } else {
                        blame(MISPLACED);
                    }
                    break;
                case ROLLER:
                    readRoller(way);
                    break;
                case EYE:
                    readEye(way);
                    break;
                case TURN:
                    readTurn(way);
                    break;
                case DAMP:
                    readDamp(way);
                    break;
                default:
                    blame(MISPLACED);
                    break;
            }
            want(SEMICOLON);
            goOn();
        }

        private void readRoller(Way way) {
            if (way.rollers >= Way.MOST_ROLLERS) {
                blame(ONE_TOO_MANY);
                return;
            }
            way.rollerPlace[way.rollers] = readNumber(way.lastRollerPlace() + 1, way.length - 1);
            want(SPEED);
            way.speed[way.rollers] = readNumber(1, 9);
            way.rollers++;
        }

        private void readEye(Way way) {
            if (way.eyes >= Way.MOST_EYES) {
                blame(ONE_TOO_MANY);
                return;
            }
            way.eyePlace[way.eyes] = readNumber(way.lastEyePlace() + 1, way.length);
            way.eyes++;
        }

        private void readTurn(Way way) {
            if (way.turn != 0) {
                blame(SECOND);
                return;
            }
            way.turn = readNumber(2, way.length - 1);
            want(BACK);
            way.back = readNumber(1, way.turn - 1);
            want(HOLD);
            way.hold = readNumber(1, 3);
            want(REST);
            way.rest = readNumber(1, 20);
        }

        private void readDamp(Way way) {
            if (way.dampTold) {
                blame(SECOND);
                return;
            }
            way.damp = readNumber(0, 90);
            way.dampTold = true;
        }

        /** The number that must come next, 0 where there is a fault. */
        private int readNumber(int low, int high) {
            want(NUMBER);
            if (faultKind == 0 && (value[current] < low || value[current] > high)) {
                blame(OUT_OF_BOUNDS);
            }
            return faultKind == 0 ? value[current] : 0;
        }

        private void want(int due) {
            goOn();
            if (kind[current] != due) {
                blame(MISPLACED);
            }
        }

        private void goOn() {
            if (faultKind == 0 && current < tokens - 1) {
                current++;
            }
        }

        /** Only the first fault counts, and what is no token at all is blamed as that alone. */
        private void blame(int faultOf) {
            if (faultKind == 0) {
                faultKind = kind[current] == BAD ? NO_TOKEN : faultOf;
                faultPlace = place[current];
            }
        }

        private static boolean isBlank(byte sign) {
            return sign == 10 || sign == 32;
        }

        private static boolean isLetter(byte sign) {
            return sign >= 'a' && sign <= 'z';
        }

        private static boolean isDigit(byte sign) {
            return sign >= '0' && sign <= '9';
        }
    }

    /** What keeps a way from running as it was built: wear, missed beats, corners left behind. */
    private static final class Flaws {
        static final int MOST_CORNERS = 3;
        static final int MOST_WEAR = 1000;

        final int[] wear = new int[Way.MOST_ROLLERS];
        final int[] beat = new int[Way.MOST_ROLLERS];
        final int[] cornerPlace = new int[MOST_CORNERS];
        int corners;

        void reset() {
            Arrays.fill(wear, 0);
            Arrays.fill(beat, 0);
            corners = 0;
        }

        void becomeLike(Flaws other) {
            System.arraycopy(other.wear, 0, wear, 0, wear.length);
            System.arraycopy(other.beat, 0, beat, 0, beat.length);
            System.arraycopy(other.cornerPlace, 0, cornerPlace, 0, cornerPlace.length);
            corners = other.corners;
        }

        int changeWear(int roller, int v) {
            if (v < 0 || v > MOST_WEAR) {
                return BAD_NUMBER;
            }
            int old = wear[roller];
            wear[roller] = v;
            return old;
        }

        int changeBeat(int roller, int v) {
            if (v != 0 && (v < 2 || v > 20)) {
                return BAD_NUMBER;
            }
            int old = beat[roller];
            beat[roller] = v;
            return old;
        }

        boolean leaveCorner(int place) {
            if (corners >= MOST_CORNERS || cornerAt(place) != NONE) {
                return false;
            }
            cornerPlace[corners] = place;
            corners++;
            return true;
        }

        boolean takeCorner(int place) {
            int i = cornerAt(place);
            if (i == NONE) {
                return false;
            }
            corners--;
            cornerPlace[i] = cornerPlace[corners];
            return true;
        }

        private int cornerAt(int place) {
            for (int i = 0; i < corners; i++) {
                if (cornerPlace[i] == place) {
                    return i;
                }
            }
            return NONE;
        }

        /** The tenth beyond which a head can't go for a corner. */
        int cornerLimit(int head) {
            int limit = FAR;
            for (int i = 0; i < corners; i++) {
                int tenths = cornerPlace[i] * 10;
                if (tenths >= head && tenths < limit) {
                    limit = tenths;
                }
            }
            return limit;
        }

        int driveOf(Way way, int head, int tail, int now) {
            int most = 0;
            for (int r = 0; r < way.rollers; r++) {
                int tenths = way.rollerPlace[r] * 10;
                boolean misses = beat[r] != 0 && now % beat[r] == 0;
                // with wear and damp above 1000 this is below 0, and so never the most
                int gives = 10 * way.speed[r] * (MOST_WEAR - wear[r] - way.damp) / MOST_WEAR;
                if (tenths > tail && tenths <= head && !misses && gives > most) {
                    most = gives;
                }
            }
            return most;
        }
    }

    /** What the eyes see, and their passings. */
    private static final class Watch {
        static final int MOST = 12;

        final boolean[] seeing = new boolean[Way.MOST_EYES];
        final int[] passings = new int[Way.MOST_EYES];
        final int[] from = new int[Way.MOST_EYES * MOST];
        final int[] to = new int[Way.MOST_EYES * MOST];
        /** The passing that goes on; NONE, too, for one beyond those that are kept. */
        private final int[] open = new int[Way.MOST_EYES];

        void reset() {
            Arrays.fill(passings, 0);
            cutOff();
        }

        void cutOff() {
            for (int e = 0; e < Way.MOST_EYES; e++) {
                seeing[e] = false;
                open[e] = NONE;
            }
        }

        void look(int eye, boolean sees, int now) {
            if (sees == seeing[eye]) {
                return;
            }
            seeing[eye] = sees;
            if (!sees) {
                close(eye, now);
            } else if (passings[eye] < MOST) {
                int i = eye * MOST + passings[eye];
                from[i] = now;
                to[i] = NONE;
                open[eye] = i;
                passings[eye]++;
            }
        }

        private void close(int eye, int now) {
            int i = open[eye];
            if (i >= 0 && i < to.length) {
                to[i] = now;
                open[eye] = NONE;
            }
        }
    }

    /** The sheets on a way, in its pocket and behind it; all places are tenths of a step. */
    private static final class Traffic {
        static final int MOST_SHEETS = 40;
        static final int UNDER_WAY = 0;
        static final int IN_POCKET = 1;
        static final int OUT = 2;
        static final int JAMMED = 3;
        static final int TAKEN = 4;
        static final int STOOD_TOO_LONG = 5;

        final Watch watch = new Watch();
        int sheets;
        int now;
        int jammed = NONE;
        int pocketed;
        final int[] state = new int[MOST_SHEETS];
        final int[] head = new int[MOST_SHEETS];
        final int[] side = new int[MOST_SHEETS];
        final int[] stood = new int[MOST_SHEETS];
        private final int[] tenths = new int[MOST_SHEETS];
        private final int[] came = new int[MOST_SHEETS];
        private final boolean[] turned = new boolean[MOST_SHEETS];
        /** Sheets under way or jammed, the greatest head first: none lies over another, so the order stays. */
        private final int[] line = new int[MOST_SHEETS];
        private int lined;
        private final int[] pocketRow = new int[3];
        private Way way = new Way();
        private Flaws flaws = new Flaws();

        void start(Way onWay, Flaws withFlaws) {
            way = onWay;
            flaws = withFlaws;
            sheets = 0;
            now = 0;
            jammed = NONE;
            pocketed = 0;
            lined = 0;
            watch.reset();
        }

        boolean isFull() {
            return sheets >= MOST_SHEETS;
        }

        int tailOf(int sheet) {
            return head[sheet] - tenths[sheet];
        }

        boolean isFreeFor(int length) {
            int front = way.rollerPlace[0] * 10;
            return jammed == NONE && liesFree(front, front - length * 10);
        }

        /** Lays a sheet where isFull and isFreeFor have been asked. */
        int begin(int length, boolean toBeTurned) {
            if (isFull()) {
                return TOO_MANY;
            }
            int s = sheets;
            sheets++;
            tenths[s] = length * 10;
            turned[s] = toBeTurned;
            putOnWay(s, way.rollerPlace[0] * 10, 1);
            return s;
        }

        private boolean liesFree(int front, int end) {
            for (int i = 0; i < lined; i++) {
                int s = line[i];
                if (front > tailOf(s) && head[s] > end) {
                    return false;
                }
            }
            return true;
        }

        private void putOnWay(int s, int front, int onSide) {
            state[s] = UNDER_WAY;
            head[s] = front;
            side[s] = onSide;
            stood[s] = 0;
            int i = Math.min(lined, MOST_SHEETS - 1);
            while (i > 0 && head[line[i - 1]] < front) {
                line[i] = line[i - 1];
                i--;
            }
            line[i] = s;
            lined = Math.min(lined + 1, MOST_SHEETS);
        }

        /** One tick. */
        void goOnce() {
            carryOn();
            for (int e = 0; e < way.eyes; e++) {
                watch.look(e, isUnderEye(way.eyePlace[e] * 10), now);
            }
        }

        /** One tick without a look at the eyes. */
        void carryOn() {
            now++;
            int before = lined;
            int limit = FAR;
            lined = 0;
            for (int i = 0; i < before; i++) {
                int s = line[i];
                move(s, limit);
                if (state[s] == UNDER_WAY) {
                    line[lined] = s;
                    lined++;
                    limit = tailOf(s);
                }
            }
            findJam();
            comeBack();
        }

        private void move(int s, int limit) {
            if (!waits(s)) {
                drive(s, limit);
            }
            if (waits(s)) {
                stood[s] = 0;
                enterPocket(s);
            }
            if (state[s] == UNDER_WAY && tailOf(s) >= way.length * 10) {
                state[s] = OUT;
            }
        }

        private boolean waits(int s) {
            return turned[s] && side[s] == 1 && tailOf(s) >= way.turn * 10;
        }

        private void drive(int s, int limit) {
            int by = flaws.driveOf(way, head[s], tailOf(s), now);
            int to = Math.min(head[s] + by, Math.min(limit, flaws.cornerLimit(head[s])));
            if (to > head[s]) {
                head[s] = to;
                stood[s] = 0;
            } else {
                stood[s]++;
            }
        }

        private void enterPocket(int s) {
            if (pocketed < way.hold && pocketed < pocketRow.length) {
                pocketRow[pocketed] = s;
                pocketed++;
                state[s] = IN_POCKET;
                came[s] = now;
            }
        }

        private void findJam() {
            for (int i = 0; i < lined; i++) {
                int s = line[i];
                if (stood[s] >= STOOD_TOO_LONG) {
                    state[s] = JAMMED;
                    jammed = s;
                    return;
                }
            }
        }

        private void comeBack() {
            if (pocketed == 0) {
                return;
            }
            int s = pocketRow[0];
            int front = way.back * 10;
            if (now - came[s] < way.rest || !liesFree(front, front - tenths[s])) {
                return;
            }
            pocketed--;
            for (int i = 0; i < pocketed; i++) {
                pocketRow[i] = pocketRow[i + 1];
            }
            putOnWay(s, front, 2);
        }

        boolean isUnderEye(int place) {
            for (int i = 0; i < lined; i++) {
                if (place <= head[line[i]] && place > tailOf(line[i])) {
                    return true;
                }
            }
            return false;
        }

        int takeAll() {
            int taken = lined + pocketed;
            for (int i = 0; i < lined; i++) {
                state[line[i]] = TAKEN;
            }
            for (int i = 0; i < pocketed; i++) {
                state[pocketRow[i]] = TAKEN;
            }
            lined = 0;
            pocketed = 0;
            jammed = NONE;
            watch.cutOff();
            return taken;
        }
    }

    /** What eyes were observed to see, the causes that explain it, and the sheet at which a roller fails. */
    private static final class Causes {
        static final int HALF_WORN = 10;
        static final int MISSING_BEAT = 20;
        static final int BLIND = 30;
        static final int LONGER = 49;
        static final int CORNER = 50;
        static final int END = CORNER + Way.MOST_EYES;
        static final int OBSERVED_TICKS = 120;
        static final int ALONE_TICKS = 400;
        static final int MOST_FORETOLD = 60;

        int observed;
        int found;
        int first;
        int second;
        private final boolean[] told = new boolean[Way.MOST_EYES];
        private final int[] on = new int[Way.MOST_EYES];
        private final int[] off = new int[Way.MOST_EYES];
        /** How far the head came with each cause alone, until the trial was refused. */
        private final int[] reach = new int[END];
        private final Traffic trial = new Traffic();
        private final Flaws trialFlaws = new Flaws();
        /** The length for which the answer stands; NONE where it must be sought anew. */
        private int soughtLength = NONE;

        boolean observe(int eye, int from, int to) {
            if (!canBe(from, to)) {
                return false;
            }
            if (!told[eye]) {
                told[eye] = true;
                observed++;
            }
            on[eye] = from;
            off[eye] = to;
            soughtLength = NONE;
            return true;
        }

        private static boolean canBe(int from, int to) {
            if (from == NONE) {
                return to == NONE;
            }
            boolean fromCan = from >= 1 && from <= OBSERVED_TICKS;
            return fromCan && (to == NONE || to > from && to <= OBSERVED_TICKS);
        }

        int dropObserved() {
            int old = observed;
            for (int e = 0; e < Way.MOST_EYES; e++) {
                told[e] = false;
            }
            observed = 0;
            soughtLength = NONE;
            return old;
        }

        void seek(Way way, int length) {
            if (soughtLength == length) {
                return;
            }
            soughtLength = length;
            found = 0;
            if (explains(way, length, NONE, NONE)) {
                return;
            }
            int plainReach = trial.head[0];
            found = 1;
            for (int a = 0; a < END; a++) {
                reach[a] = plainReach;
                if (isWorthTrying(way, a) && canMatter(way, a, plainReach)) {
                    first = a;
                    if (explains(way, length, a, NONE)) {
                        return;
                    }
                    reach[a] = trial.head[0];
                }
            }
            found = 2;
            for (int a = 0; a < END; a++) {
                first = a;
                for (int b = isWorthTrying(way, a) ? a + 1 : END; b < END; b++) {
                    second = b;
                    boolean can = isWorthTrying(way, b) && canMatter(way, b, reach[a]) && canMatter(way, a, reach[b]);
                    if (can && explains(way, length, a, b)) {
                        return;
                    }
                }
            }
            found = NONE;
        }

        /** An eye that is blind changes something only where it was observed, and never saw. */
        private boolean isWorthTrying(Way way, int cause) {
            if (cause < BLIND) {
                return way.hasRoller(cause % 10);
            }
            if (cause < LONGER) {
                int eye = cause - BLIND;
                return way.hasEye(eye) && told[eye] && on[eye] == NONE;
            }
            if (cause == LONGER) {
                return true;
            }
            int eye = cause - CORNER;
            return way.hasEye(eye) && way.eyePlace[eye] + 2 <= way.length;
        }

        /**
         * Whether a trial that was refused with its head at reach can end otherwise with this cause, too:
         * one that the head hadn't come to by then would have changed nothing.
         */
        private static boolean canMatter(Way way, int cause, int reach) {
            if (cause < BLIND) {
                return reach >= way.rollerPlace[cause % 10] * 10;
            }
            if (cause < LONGER) {
                return reach >= way.eyePlace[cause - BLIND] * 10;
            }
            return cause == LONGER || reach > (way.eyePlace[cause - CORNER] + 2) * 10;
        }

        private boolean explains(Way way, int length, int a, int b) {
            trialFlaws.reset();
            putFlaw(way, a);
            putFlaw(way, b);
            trial.start(way, trialFlaws);
            trial.begin(a == LONGER || b == LONGER ? length + 10 : length, false);
            for (int t = 1; t <= OBSERVED_TICKS; t++) {
                trial.carryOn();
                if (!isSeenSo(way, t, a, b)) {
                    return false;
                }
                if (trial.state[0] != Traffic.UNDER_WAY) {
                    return allSeenBy(way, t);
                }
            }
            return true;
        }

        private void putFlaw(Way way, int cause) {
            if (cause == NONE || cause == LONGER) {
                return;
            }
            if (cause >= CORNER) {
                trialFlaws.leaveCorner(way.eyePlace[cause - CORNER] + 2);
            } else if (cause < HALF_WORN) {
                trialFlaws.wear[cause] = Math.max(trialFlaws.wear[cause], 200);
            } else if (cause < MISSING_BEAT) {
                trialFlaws.wear[cause - HALF_WORN] = 500;
            } else if (cause < BLIND) {
                trialFlaws.beat[cause - MISSING_BEAT] = 3;
            }
        }

        private boolean isSeenSo(Way way, int t, int a, int b) {
            for (int e = 0; e < way.eyes; e++) {
                if (told[e]) {
                    boolean due = on[e] != NONE && t >= on[e] && (off[e] == NONE || t < off[e]);
                    boolean blind = a == BLIND + e || b == BLIND + e;
                    if (due != (!blind && trial.isUnderEye(way.eyePlace[e] * 10))) {
                        return false;
                    }
                }
            }
            return true;
        }

        /** Behind the end of a trial no eye's sight changes any more. */
        private boolean allSeenBy(Way way, int t) {
            for (int e = 0; e < way.eyes; e++) {
                if (told[e] && (on[e] > t || off[e] > t)) {
                    return false;
                }
            }
            return true;
        }

        int firstToFail(Way way, Flaws flaws, int roller, int grow, int length) {
            trialFlaws.becomeLike(flaws);
            for (int n = 1; n <= MOST_FORETOLD; n++) {
                trialFlaws.wear[roller] = Math.min(Flaws.MOST_WEAR, trialFlaws.wear[roller] + grow);
                trial.start(way, trialFlaws);
                trial.begin(length, false);
                for (int t = 0; t < ALONE_TICKS && trial.state[0] == Traffic.UNDER_WAY; t++) {
                    trial.carryOn();
                }
                if (trial.state[0] != Traffic.OUT) {
                    return n;
                }
            }
            return NONE;
        }
    }

    /** The set, what it is made with, what came out of it, and the parts told for service. */
    private static final class Job {
        static final int MOST_PAGES = 8;
        static final int KINDS = 4;
        static final int TRAYS = 4;
        static final int MOST_HEAT = 30;
        static final int MOST_COPIES = 40;
        static final int MOST_STACK = 60;
        static final int PARTS = 10;

        int pages;
        final int[] pageKind = new int[MOST_PAGES];
        final boolean[] pageBoth = new boolean[MOST_PAGES];
        final int[] trayKind = new int[TRAYS];
        final boolean[] trayPaper = new boolean[TRAYS];
        int hold = 1;
        int rest;
        int heatFirst = MOST_HEAT;
        int heatNeed;
        int heatCost;
        int heatGain = 1;
        int copyNumber = 1;
        int stacked;
        final int[] stack = new int[MOST_STACK];
        final int[] partCost = new int[PARTS];
        final int[] partWeeks = new int[PARTS];
        final int[] partAge = new int[PARTS];
        final boolean[] partTold = new boolean[PARTS];

        int addPage(int kind, boolean both) {
            if (pages >= MOST_PAGES) {
                return TOO_MANY;
            }
            pageKind[pages] = kind;
            pageBoth[pages] = both;
            pages++;
            return pages - 1;
        }

        int stackSides() {
            int sides = 0;
            for (int i = 0; i < stacked; i++) {
                sides += pageBoth[stack[i]] ? 2 : 1;
            }
            return sides;
        }

        void becomeLike(Job other) {
            pages = other.pages;
            System.arraycopy(other.pageKind, 0, pageKind, 0, MOST_PAGES);
            System.arraycopy(other.pageBoth, 0, pageBoth, 0, MOST_PAGES);
            System.arraycopy(other.trayKind, 0, trayKind, 0, TRAYS);
            System.arraycopy(other.trayPaper, 0, trayPaper, 0, TRAYS);
            hold = other.hold;
            rest = other.rest;
            heatFirst = other.heatFirst;
            heatNeed = other.heatNeed;
            heatCost = other.heatCost;
            heatGain = other.heatGain;
            copyNumber = other.copyNumber;
            stacked = other.stacked;
            System.arraycopy(other.stack, 0, stack, 0, MOST_STACK);
            System.arraycopy(other.partCost, 0, partCost, 0, PARTS);
            System.arraycopy(other.partWeeks, 0, partWeeks, 0, PARTS);
            System.arraycopy(other.partAge, 0, partAge, 0, PARTS);
            System.arraycopy(other.partTold, 0, partTold, 0, PARTS);
        }
    }

    /**
     * The least plan of a job, by breadth: states stand in the queue in the order of the least rows of acts
     * that lead to them, so the first state met in which all is out is that of the least plan.
     */
    private static final class Planner {
        static final int STOP = 0;
        static final int BACK = 1;
        static final int FEED = 2;
        static final int NO_TRAY = 4;
        static final int RIPE = 16;
        static final int HEATS = Job.MOST_HEAT + 1;
        static final int STATES = (Job.MOST_PAGES + 1) * 64 * HEATS * 5 * 2;
        /** Above the 63,550 states that can be met: 32 ways a pocket lies, 4 trays, 31 heats, 2, for each page. */
        static final int MOST_MET = 65536;
        /** Above the 196 slots of the longest plan: 30 stops, then 16 acts with 10 stops between two. */
        static final int MOST_SLOTS = 256;
        static final int ACT_SHIFT = 24;
        static final int PARENT_SHIFT = 32;
        static final int STATE_MASK = (1 << ACT_SHIFT) - 1;

        boolean fresh;
        int slots;
        final int[] acts = new int[MOST_SLOTS];
        private final long[] queue = new long[MOST_MET];
        private final long[] met = new long[STATES / 64 + 1];
        private int queued;
        private int goal;
        private Job job = new Job();
        // the state that is being left
        private int fed;
        private int young;
        private int ripe;
        private int heatNow;
        private int lastTray;
        private boolean stopAhead;

        void seek(Job ofJob) {
            if (fresh) {
                return;
            }
            job = ofJob;
            fresh = true;
            slots = NONE;
            goal = NONE;
            if (!hasPaperForAll()) {
                return;
            }
            Arrays.fill(met, 0L);
            queued = 0;
            meet(0, 0, job.heatNeed == 0 ? 0 : job.heatFirst, NO_TRAY, 0, 0L);
            for (int i = 0; i < queued && i < MOST_MET && goal == NONE; i++) {
                leave(i);
            }
            if (goal != NONE) {
                traceBack();
            }
        }

        private boolean hasPaperForAll() {
            for (int p = 0; p < job.pages; p++) {
                boolean has = false;
                for (int t = 0; t < Job.TRAYS; t++) {
                    has = has || gives(t, p);
                }
                if (!has) {
                    return false;
                }
            }
            return true;
        }

        private boolean gives(int tray, int page) {
            return job.trayPaper[tray] && job.trayKind[tray] == job.pageKind[page];
        }

        private void leave(int parent) {
            unpack((int) (queue[parent] & STATE_MASK));
            long from = (long) parent << PARENT_SHIFT;
            int aged = agedPocket(ripe, 0);
            int hotter = Math.min(Job.MOST_HEAT, heatNow + job.heatGain);
            meet(fed, aged, job.heatNeed == 0 ? 0 : hotter, lastTray, 1, from | (long) STOP << ACT_SHIFT);
            if (heatNow < job.heatNeed) {
                return;
            }
            int cooler = Math.max(0, heatNow - job.heatCost);
            if (ripe > 0) {
                long act = (long) BACK << ACT_SHIFT;
                meet(fed, agedPocket(ripe - 1, 0), cooler, lastTray, 0, from | act);
            }
            if (fed < job.pages && takesNext()) {
                int pocket = job.pageBoth[fed] ? agedPocket(ripe, 1) : aged;
                feedFromEach(pocket, cooler, from);
            }
        }

        private boolean takesNext() {
            int lying = ripe + Integer.bitCount(young);
            return job.pageBoth[fed] ? lying < job.hold : lying == 0;
        }

        private void feedFromEach(int pocket, int cooler, long from) {
            for (int t = 0; t < Job.TRAYS; t++) {
                boolean open = stopAhead || lastTray == t || lastTray == NO_TRAY;
                if (open && gives(t, fed)) {
                    long act = (long) (FEED + t) << ACT_SHIFT;
                    meet(fed + 1, pocket, cooler, t, 0, from | act);
                }
            }
        }

        /** The pocket one slot on: bit a of the young is the page that has lain a slots, ripe ones are alike. */
        private int agedPocket(int ripeLeft, int entering) {
            int all = young << 1 | entering;
            int ripened = all >> job.rest & 1;
            int stillYoung = all & (1 << job.rest) - 1;
            return (ripeLeft + ripened) * RIPE + stillYoung;
        }

        private void unpack(int state) {
            int rest = state;
            stopAhead = rest % 2 == 1;
            rest /= 2;
            lastTray = rest % 5;
            rest /= 5;
            heatNow = rest % HEATS;
            rest /= HEATS;
            young = rest % RIPE;
            ripe = rest % 64 / RIPE;
            fed = rest / 64;
        }

        private void meet(int fedNow, int pocket, int heat, int tray, int stop, long ahead) {
            int state = (((fedNow * 64 + pocket) * HEATS + heat) * 5 + tray) * 2 + stop;
            if (state < 0 || state >= STATES || queued >= MOST_MET || goal != NONE) {
                return;
            }
            long bit = 1L << (state & 63);
            if ((met[state >> 6] & bit) != 0) {
                return;
            }
            met[state >> 6] |= bit;
            queue[queued] = ahead | state;
            if (fedNow == job.pages && pocket == 0) {
                goal = queued;
            }
            queued++;
        }

        private void traceBack() {
            int steps = 0;
            for (int i = goal; i > 0 && steps < MOST_SLOTS; i = parentOf(i)) {
                steps++;
            }
            slots = steps;
            int i = goal;
            for (int k = steps - 1; k >= 0; k--) {
                acts[k] = (int) (queue[i] >> ACT_SHIFT) & 7;
                i = parentOf(i);
            }
        }

        private int parentOf(int i) {
            return (int) (queue[i] >> PARENT_SHIFT);
        }
    }

    /** Pairs what came out with what is wanted. */
    private static final class Keeper {
        static final int WIDTH = Job.MOST_STACK + 1;

        boolean fresh;
        int wanted;
        int pairs;
        final int[] paired = new int[Job.MOST_PAGES * Job.MOST_COPIES];
        /** room[i * WIDTH + m]: the last place of WANTED from which m of the stack from i on still find theirs. */
        private final int[] room = new int[WIDTH * WIDTH];

        void pair(Job job) {
            if (fresh) {
                return;
            }
            fresh = true;
            wanted = job.pages * job.copyNumber;
            measureRoom(job);
            pairs = 0;
            while (pairs < job.stacked && room[pairs + 1] != NONE) {
                pairs++;
            }
            pairInOrder(job);
        }

        private void measureRoom(Job job) {
            int n = job.stacked;
            Arrays.fill(room, NONE);
            room[n * WIDTH] = wanted;
            for (int i = n - 1; i >= 0; i--) {
                int here = i * WIDTH;
                int next = here + WIDTH;
                room[here] = wanted;
                for (int m = 1; m <= n - i; m++) {
                    int with = lastPlaceBelow(room[next + m - 1], job.stack[i], job.pages);
                    room[here + m] = Math.max(room[next + m], with);
                }
            }
        }

        private static int lastPlaceBelow(int limit, int page, int pages) {
            if (limit <= page || pages == 0) {
                return NONE;
            }
            return limit - 1 - (limit - 1 - page) % pages;
        }

        /** The least places first, each with the earliest of the stack, as long as the rest finds room behind. */
        private void pairInOrder(Job job) {
            int from = 0;
            int left = pairs;
            int page = NONE;
            for (int w = 0; w < wanted; w++) {
                page = page + 1 < job.pages ? page + 1 : 0;
                paired[w] = NONE;
                int s = left > 0 ? earliest(job, from, page) : NONE;
                if (s != NONE && room[(s + 1) * WIDTH + left - 1] > w) {
                    paired[w] = s;
                    from = s + 1;
                    left--;
                }
            }
        }

        private static int earliest(Job job, int from, int page) {
            for (int s = from; s < job.stacked; s++) {
                if (job.stack[s] == page) {
                    return s;
                }
            }
            return NONE;
        }

        int lackingPlace(int i) {
            int lacking = 0;
            for (int w = 0; w < wanted; w++) {
                if (paired[w] == NONE) {
                    if (lacking == i) {
                        return w;
                    }
                    lacking++;
                }
            }
            return NONE;
        }

        int wholeCopies(Job job) {
            int whole = 0;
            for (int c = 0; c < job.copyNumber; c++) {
                boolean all = true;
                for (int p = 0; p < job.pages; p++) {
                    all = all && paired[c * job.pages + p] != NONE;
                }
                whole += all ? 1 : 0;
            }
            return whole;
        }
    }

    /** The cheapest visits of service, by trying every set of weeks. */
    private static final class Rounds {
        static final int CANNOT = -1;
        /** Above what ten visits and a hundred new parts can cost. */
        static final int DEAR = 1000000;

        /** The weeks for which the answer stands; NONE where it must be sought anew. */
        int weeks = NONE;
        int total;
        int visits;
        int renewed;
        private int priceSought;
        private int newOnes;

        void seek(Job job, int n, int price) {
            if (weeks == n && priceSought == price) {
                return;
            }
            weeks = n;
            priceSought = price;
            total = DEAR;
            for (int mask = 0; mask < 1 << n; mask++) {
                int cost = costOfNewOnes(job, n, mask);
                int sum = cost + Integer.bitCount(mask) * price;
                if (cost != CANNOT && isBetter(sum, mask)) {
                    total = sum;
                    visits = mask;
                    renewed = newOnes;
                }
            }
        }

        private boolean isBetter(int sum, int mask) {
            return sum < total || sum == total && Integer.bitCount(mask) < Integer.bitCount(visits);
        }

        private int costOfNewOnes(Job job, int n, int mask) {
            int cost = 0;
            newOnes = 0;
            for (int p = 0; p < Job.PARTS; p++) {
                if (job.partTold[p]) {
                    int times = timesNew(job.partWeeks[p], job.partAge[p], n, mask);
                    if (times == CANNOT) {
                        return CANNOT;
                    }
                    cost += times * job.partCost[p];
                    newOnes += times;
                }
            }
            return cost;
        }

        /** How often a part must be new, if it is made new at the last visit ahead of the week it can't run. */
        private static int timesNew(int most, int ageFirst, int n, int mask) {
            int age = ageFirst;
            int times = 0;
            int lastVisit = NONE;
            for (int w = 0; w < n; w++) {
                if ((mask >> w & 1) == 1) {
                    lastVisit = w;
                }
                if (age >= most) {
                    if (lastVisit == NONE || w - lastVisit >= most) {
                        return CANNOT;
                    }
                    age = w - lastVisit;
                    times++;
                }
                age++;
            }
            return times;
        }
    }

    /** Rows of numbers, each cut to the sort of its row. */
    private static final class Memory {
        static final int ROWS = 4;
        static final int LONGEST_ROW = 60;

        final long[][] number = new long[ROWS][LONGEST_ROW];
        final int[] sort = new int[ROWS];
        final int[] size = {NONE, NONE, NONE, NONE};

        void make(int row, int ofSort, int n) {
            sort[row] = ofSort;
            size[row] = n;
            Arrays.fill(number[row], 0L);
        }

        static long cut(long v, int sort) {
            switch (sort) {
                case 0:
                    return (byte) v;
                case 1:
                    return (short) v;
                case 2:
                    return (int) v;
                default:
                    return v;
            }
        }

        boolean tellsPages(int row, int n, int pages) {
            for (int i = 0; i < n; i++) {
                if (number[row][i] < 0 || number[row][i] >= pages) {
                    return false;
                }
            }
            return true;
        }
    }
}
