/**
 * Callers wait on a line with music, and give up, or not, by what they are told.
 * The words in capitals in the comments are those of the document.
 */
public final class NumberEleven {
    public static final int BAD = -1, NO = -2, FULL = -3, NONE = -4;

    private static final String FIRST_TEXT =
        "c0,0,6,10;c1,0,4,25;c2,1,3,8;c3,2,9,40;c0,2,5,12;c1,6,2,30;c0,9,3,5;s1,4;r0;";

    private static final int MOST_LETTERS = 200;
    private static final int MOST_CALLERS = 8;
    private static final int MOST_SERVING = 4;
    private static final int MOST_UNDONE = 8;
    private static final int MOST_KEPT = 2;
    private static final int MOST_SEEN = 6;
    private static final int MOST_PATIENCE = 30;
    private static final int LAST_MINUTE = 999;
    private static final int LONGEST_PASS = 40;
    private static final int LONGEST_SIGHT = 40;
    private static final int LONGEST_PAUSE = 20;
    private static final int OUTLOOK = 60;
    private static final int LAST_DAY = 9999;
    private static final int TENTHS = 10;

    private static final int PLAIN = 0, TOLD = 1, COOKING = 2, NERVOUS = 3;
    private static final int IDLE = 0, WAITS = 1, SERVED = 2, THROUGH = 3, GAVE_UP = 4;
    private static final int FIRST_COME = 0, LAST_COME = 1, MOST_WORTH = 2;

    private final Text text = new Text();
    private final Plan plan = new Plan();
    private final Plan otherPlan = new Plan();
    private final Line line = new Line();
    private final Line trial = new Line();
    private final Shelf earlier = new Shelf(MOST_UNDONE);
    private final Shelf kept = new Shelf(MOST_KEPT);
    private final Sightings sightings = new Sightings();

    public NumberEleven() {
        int letters = FIRST_TEXT.length();
        for (int i = 0; i < letters; i++) {
            text.append(FIRST_TEXT.charAt(i));
        }
        text.readInto(plan);
        text.clear();
        line.start(plan);
    }

    // ---- lines

    public int write(int letter) {
        if (!isWithin(letter, 32, 126)) {
            return BAD;
        }
        if (text.length == MOST_LETTERS) {
            return FULL;
        }
        text.append((char) letter);
        return text.length;
    }

    public int wipe() {
        int letters = text.length;
        text.clear();
        return letters;
    }

    public int fault() {
        return text.readInto(otherPlan);
    }

    public int lay() {
        if (text.readInto(otherPlan) != NONE || otherPlan.callers == 0) {
            return NO;
        }
        plan.copyFrom(otherPlan);
        line.start(plan);
        sightings.clear();
        earlier.clear();
        kept.clear();
        return plan.callers;
    }

    public int caller(int c, int what) {
        if (!isCaller(c)) {
            return BAD;
        }
        switch (what) {
            case 0: return plan.kind[c];
            case 1: return plan.callsIn[c];
            case 2: return plan.patience[c];
            case 3: return plan.worth[c];
            case 4: return line.state[c];
            case 5: return line.waited[c];
            case 6: return line.state[c] == WAITS ? Line.mostBorne(plan, c, line.countAhead(plan, c)) : NONE;
            default: return BAD;
        }
    }

    // ---- acts

    public int pass(int n) {
        if (!isWithin(n, 1, LONGEST_PASS)) {
            return BAD;
        }
        if (line.minute + n > LAST_MINUTE) {
            return NO;
        }
        earlier.put(line);
        line.goOnFor(plan, n);
        return line.minute;
    }

    public int hang(int c) {
        if (!isCaller(c)) {
            return BAD;
        }
        if (!line.canHangUp(c)) {
            return NO;
        }
        earlier.put(line);
        line.hangUp(c);
        return line.waited[c];
    }

    public int recall(int c) {
        if (!isCaller(c)) {
            return BAD;
        }
        if (!line.canCallAgain(c)) {
            return NO;
        }
        int wasThrough = line.state[c] == THROUGH ? 1 : 0;
        earlier.put(line);
        line.callAgain(c);
        return wasThrough;
    }

    public int staff(int more) {
        if (!isWithin(more, 0, 1)) {
            return BAD;
        }
        int serving = more == 1 ? line.serving + 1 : line.serving - 1;
        if (!isWithin(serving, 1, MOST_SERVING)) {
            return NO;
        }
        earlier.put(line);
        line.serving = serving;
        return serving;
    }

    public int rule(int r) {
        if (!isWithin(r, FIRST_COME, MOST_WORTH)) {
            return BAD;
        }
        int was = line.rule;
        if (was == r) {
            return NO;
        }
        earlier.put(line);
        line.rule = r;
        return was;
    }

    public int undo() {
        return earlier.giveLastTo(line) ? earlier.size : NO;
    }

    // ---- what comes

    public int behind(int n, int c) {
        if (!isWithin(n, 0, OUTLOOK) || !isCaller(c)) {
            return BAD;
        }
        trial.copyFrom(line);
        trial.goOnFor(plan, n);
        return trial.state[c];
    }

    public int taken(int c) {
        if (!isCaller(c)) {
            return BAD;
        }
        trial.copyFrom(line);
        return minutesTillTaken(c, OUTLOOK);
    }

    public int left(int c) {
        if (!isCaller(c)) {
            return BAD;
        }
        trial.copyFrom(line);
        for (int n = 0; n < OUTLOOK; n++) {
            if (trial.hasLeft(c)) {
                return n;
            }
            trial.goOn(plan);
        }
        return trial.hasLeft(c) ? OUTLOOK : NONE;
    }

    public int number(int c) {
        if (!isCaller(c)) {
            return BAD;
        }
        return line.state[c] == WAITS ? line.countAhead(plan, c) : NO;
    }

    public int again(int c, int what) {
        if (!isCaller(c) || !isWithin(what, 0, 1)) {
            return BAD;
        }
        if (line.state[c] != WAITS) {
            return NO;
        }
        int pause = NONE;
        int soonest = NONE;
        for (int d = 0; d <= LONGEST_PAUSE; d++) {
            int minutes = minutesByPause(c, d);
            if (minutes != NONE && (soonest == NONE || minutes < soonest)) {
                pause = d;
                soonest = minutes;
            }
        }
        return what == 0 ? pause : soonest;
    }

    public int best(int what) {
        if (!isWithin(what, 0, 1)) {
            return BAD;
        }
        int which = FIRST_COME;
        int most = worthServedBy(FIRST_COME);
        for (int r = LAST_COME; r <= MOST_WORTH; r++) {
            int worth = worthServedBy(r);
            if (worth > most) {
                which = r;
                most = worth;
            }
        }
        return what == 0 ? which : most;
    }

    public int needed() {
        for (int serving = 1; serving <= MOST_SERVING; serving++) {
            trial.copyFrom(line);
            trial.serving = serving;
            if (giveUpsInTrial() == 0) {
                return serving;
            }
        }
        return NONE;
    }

    public int lost() {
        trial.copyFrom(line);
        return giveUpsInTrial();
    }

    public int helps(int what) {
        if (!isWithin(what, 0, 1)) {
            return BAD;
        }
        int which = NONE;
        int fewest = NONE;
        for (int c = 0; c < plan.callers; c++) {
            if (line.canHangUp(c)) {
                trial.copyFrom(line);
                trial.hangUp(c);
                int others = giveUpsInTrial();
                if (which == NONE || others < fewest) {
                    which = c;
                    fewest = others;
                }
            }
        }
        return what == 0 ? which : fewest;
    }

    public int longest(int what) {
        if (!isWithin(what, 0, 1)) {
            return BAD;
        }
        trial.copyFrom(line);
        trial.goOnFor(plan, OUTLOOK);
        int which = NONE;
        int most = NONE;
        for (int c = 0; c < plan.callers; c++) {
            if (line.isToBeTaken(c) && (which == NONE || trial.waited[c] > most)) {
                which = c;
                most = trial.waited[c];
            }
        }
        return what == 0 ? which : most;
    }

    // ---- what was seen

    public int seen(int c, int t, int gave) {
        if (!isCaller(c) || !isWithin(t, 1, LONGEST_SIGHT) || !isWithin(gave, 0, 1)) {
            return BAD;
        }
        if (sightings.size == MOST_SEEN) {
            return FULL;
        }
        sightings.add(c, t, gave == 1);
        return sightings.size;
    }

    public int forget() {
        int many = sightings.size;
        sightings.clear();
        return many;
    }

    public int bears(int c, int what) {
        if (!isCaller(c) || !isWithin(what, 0, 1)) {
            return BAD;
        }
        otherPlan.copyFrom(plan);
        int many = 0;
        int least = NONE;
        for (int p = 1; p <= MOST_PATIENCE; p++) {
            otherPlan.patience[c] = p;
            if (allSeenIsSo(c)) {
                many++;
                least = least == NONE ? p : least;
            }
        }
        return what == 0 ? many : least;
    }

    public int kinds(int c) {
        if (!isCaller(c)) {
            return BAD;
        }
        otherPlan.copyFrom(plan);
        int bits = 0;
        for (int kind = PLAIN; kind <= NERVOUS; kind++) {
            otherPlan.kind[c] = kind;
            if (allSeenIsSo(c)) {
                bits |= 1 << kind;
            }
        }
        return bits;
    }

    // ---- chances, days

    public int likely(int c, int x, int part) {
        if (!isCaller(c) || !isWithin(x, 0, TENTHS) || !isWithin(part, 0, 1)) {
            return BAD;
        }
        int others = othersWhoWait(c);
        int above = 0;
        for (int hanging = 0; hanging < 1 << plan.callers; hanging++) {
            if ((hanging & ~others) == 0) {
                above += weightIfTaken(c, x, hanging, others);
            }
        }
        int below = power(TENTHS, Integer.bitCount(others));
        int common = Math.max(1, commonDivisor(below, above));
        return part == 0 ? above / common : below / common;
    }

    public int day(int z, int n, int what) {
        if (!isWithin(z, 0, LAST_DAY) || !isWithin(n, 1, OUTLOOK) || !isWithin(what, 0, 2)) {
            return BAD;
        }
        trial.copyFrom(line);
        for (int i = 0; i < n; i++) {
            actByDraw(draw(z, i));
            trial.goOn(plan);
        }
        switch (what) {
            case 0: return trial.countIn(plan, THROUGH);
            case 1: return trial.countIn(plan, GAVE_UP);
            default: return trial.worthThrough(plan);
        }
    }

    // ---- kept

    public int keep() {
        if (kept.size == MOST_KEPT) {
            return FULL;
        }
        kept.put(line);
        return kept.size;
    }

    public int back() {
        if (!kept.giveLastTo(line)) {
            return NO;
        }
        earlier.clear();
        return kept.size;
    }

    public int count(int what) {
        switch (what) {
            case 0: return plan.callers;
            case 1: return line.minute;
            case 2: return line.countIn(plan, WAITS);
            case 3: return line.countIn(plan, SERVED);
            case 4: return line.countIn(plan, THROUGH);
            case 5: return line.countIn(plan, GAVE_UP);
            case 6: return line.serving;
            case 7: return plan.minutesEach;
            case 8: return line.rule;
            case 9: return sightings.size;
            case 10: return earlier.size;
            case 11: return kept.size;
            case 12: return text.length;
            default: return BAD;
        }
    }

    // ---- helpers

    private static boolean isWithin(int number, int least, int most) {
        return number >= least && number <= most;
    }

    private boolean isCaller(int c) {
        return isWithin(c, 0, plan.callers - 1);
    }

    /** Moves the trial on until c is TAKEN. */
    private int minutesTillTaken(int c, int most) {
        for (int n = 0; n < most; n++) {
            if (trial.isTaken(c)) {
                return n;
            }
            trial.goOn(plan);
        }
        return trial.isTaken(c) ? most : NONE;
    }

    private int minutesByPause(int c, int pause) {
        trial.copyFrom(line);
        trial.hangUp(c);
        trial.goOnFor(plan, pause);
        trial.callAgain(c);
        int minutes = minutesTillTaken(c, OUTLOOK - pause);
        return minutes == NONE ? NONE : pause + minutes;
    }

    private int worthServedBy(int rule) {
        trial.copyFrom(line);
        trial.rule = rule;
        trial.goOnFor(plan, OUTLOOK);
        int worth = 0;
        for (int c = 0; c < plan.callers; c++) {
            // nobody calls again here, so who was TAKEN is SERVED or THROUGH at the end, too
            if (line.isToBeTaken(c) && trial.isTaken(c)) {
                worth += plan.worth[c];
            }
        }
        return worth;
    }

    /** Moves the trial on: how many more GAVE UP by then. */
    private int giveUpsInTrial() {
        int before = trial.countIn(plan, GAVE_UP);
        trial.goOnFor(plan, OUTLOOK);
        return trial.countIn(plan, GAVE_UP) - before;
    }

    /** Whether all that is SEEN of c would be so, were all callers as the other plan says. */
    private boolean allSeenIsSo(int c) {
        for (int i = 0; i < sightings.size; i++) {
            if (sightings.who[i] == c) {
                trial.copyFrom(line);
                trial.goOnFor(otherPlan, sightings.minutes[i]);
                if ((trial.state[c] == GAVE_UP) != sightings.gaveUp[i]) {
                    return false;
                }
            }
        }
        return true;
    }

    private int othersWhoWait(int c) {
        int bits = 0;
        for (int other = 0; other < plan.callers; other++) {
            if (other != c && line.canHangUp(other)) {
                bits |= 1 << other;
            }
        }
        return bits;
    }

    /** The weight of just these hanging up, of ten to the power of how many others wait; 0 if c is not TAKEN then. */
    private int weightIfTaken(int c, int x, int hanging, int others) {
        int hung = Integer.bitCount(hanging);
        int stayed = Integer.bitCount(others) - hung;
        int weight = power(x, hung) * power(TENTHS - x, stayed);
        if (weight == 0) {
            return 0;
        }
        trial.copyFrom(line);
        for (int other = 0; other < plan.callers; other++) {
            if ((hanging >> other & 1) == 1) {
                trial.hangUp(other);
            }
        }
        return minutesTillTaken(c, OUTLOOK) == NONE ? 0 : weight;
    }

    private static int power(int base, int exponent) {
        int product = 1;
        for (int i = 0; i < exponent; i++) {
            product *= base;
        }
        return product;
    }

    private static int commonDivisor(int a, int b) {
        int larger = a;
        int smaller = b;
        for (int i = 0; i < 64 && smaller != 0; i++) {
            int rest = larger % smaller;
            larger = smaller;
            smaller = rest;
        }
        return larger;
    }

    private static int draw(int z, int minute) {
        long x = 7919L * z + 6151L * minute + 1;
        return (int) ((x * x) % 65521 / 2);
    }

    private void actByDraw(int draw) {
        int c = draw % Math.max(1, plan.callers);
        switch (draw / 8 % 6) {
            case 0:
                if (trial.canHangUp(c)) {
                    trial.hangUp(c);
                }
                break;
            case 1:
                if (trial.canCallAgain(c)) {
                    trial.callAgain(c);
                }
                break;
            case 2:
                trial.serving = Math.min(MOST_SERVING, trial.serving + 1);
                break;
            case 3:
                trial.serving = Math.max(1, trial.serving - 1);
                break;
            default:
                break;
        }
    }

    /** What a TEXT says of the callers; it stays as long as nothing else is LAID. */
    private static final class Plan {
        final int[] kind = new int[MOST_CALLERS];
        final int[] callsIn = new int[MOST_CALLERS];
        final int[] patience = new int[MOST_CALLERS];
        final int[] worth = new int[MOST_CALLERS];
        int callers;
        int serving;
        int minutesEach;
        int rule;

        void clear() {
            callers = 0;
            serving = 1;
            minutesEach = 5;
            rule = FIRST_COME;
        }

        void copyFrom(Plan other) {
            callers = other.callers;
            serving = other.serving;
            minutesEach = other.minutesEach;
            rule = other.rule;
            System.arraycopy(other.kind, 0, kind, 0, MOST_CALLERS);
            System.arraycopy(other.callsIn, 0, callsIn, 0, MOST_CALLERS);
            System.arraycopy(other.patience, 0, patience, 0, MOST_CALLERS);
            System.arraycopy(other.worth, 0, worth, 0, MOST_CALLERS);
        }

        /** Takes an ITEM of this letter with these numbers; false if it is not so. */
        boolean accept(char letter, int[] numbers) {
            switch (letter) {
                case 'c': return acceptCaller(numbers[0], numbers[1], numbers[2], numbers[3]);
                case 's': return acceptServing(numbers[0], numbers[1]);
                case 'r': return acceptRule(numbers[0]);
                default: return false;
            }
        }

        private boolean acceptCaller(int k, int a, int p, int w) {
            if (callers >= MOST_CALLERS || !isWithin(k, PLAIN, NERVOUS) || !isWithin(a, 0, 40)
                    || !isWithin(p, 1, MOST_PATIENCE) || !isWithin(w, 0, 60)) {
                return false;
            }
            kind[callers] = k;
            callsIn[callers] = a;
            patience[callers] = p;
            worth[callers] = w;
            callers++;
            return true;
        }

        private boolean acceptServing(int s, int m) {
            if (!isWithin(s, 1, MOST_SERVING) || !isWithin(m, 1, 20)) {
                return false;
            }
            serving = s;
            minutesEach = m;
            return true;
        }

        private boolean acceptRule(int r) {
            if (!isWithin(r, FIRST_COME, MOST_WORTH)) {
                return false;
            }
            rule = r;
            return true;
        }
    }

    /** THE TEXT, and how it is read. */
    private static final class Text {
        final char[] letters = new char[MOST_LETTERS];
        final int[] numbers = new int[4];
        int length;

        void append(char letter) {
            if (length < MOST_LETTERS) {
                letters[length] = letter;
                length++;
            }
        }

        void clear() {
            length = 0;
        }

        /** Answers where the FAULT is, or NONE; the plan is whole only without one. */
        int readInto(Plan target) {
            target.clear();
            int place = 0;
            for (int items = 0; items < MOST_LETTERS && place < length; items++) {
                int end = readItem(place, target);
                if (end == NONE) {
                    return place;
                }
                place = end;
            }
            return NONE;
        }

        /** Answers the place behind the ITEM that begins here, or NONE if it is not so. */
        private int readItem(int start, Plan target) {
            int due = numbersBehind(letters[start]);
            if (due == 0) {
                return NONE;
            }
            int place = start + 1;
            for (int i = 0; i < due; i++) {
                int figures = figuresAt(place);
                if (figures == 0) {
                    return NONE;
                }
                numbers[i] = valueOf(place, figures);
                place += figures;
                char parting = i == due - 1 ? ';' : ',';
                if (place >= length || letters[place] != parting) {
                    return NONE;
                }
                place++;
            }
            return target.accept(letters[start], numbers) ? place : NONE;
        }

        private static int numbersBehind(char letter) {
            switch (letter) {
                case 'c': return 4;
                case 's': return 2;
                case 'r': return 1;
                default: return 0;
            }
        }

        private int figuresAt(int place) {
            if (!isFigure(place)) {
                return 0;
            }
            return isFigure(place + 1) ? 2 : 1;
        }

        private boolean isFigure(int place) {
            return place < length && letters[place] >= '0' && letters[place] <= '9';
        }

        private int valueOf(int place, int figures) {
            int first = letters[place] - '0';
            return figures == 2 ? 10 * first + letters[place + 1] - '0' : first;
        }
    }

    /** How all stands in a MINUTE. */
    private static final class Line {
        final int[] state = new int[MOST_CALLERS];
        final int[] waited = new int[MOST_CALLERS];
        final int[] came = new int[MOST_CALLERS];
        final int[] takenIn = new int[MOST_CALLERS];
        /** Bits of those IDLE ones who CALL AGAIN. */
        int callingAgain;
        int comings;
        int minute;
        int serving;
        int rule;

        void start(Plan plan) {
            for (int c = 0; c < MOST_CALLERS; c++) {
                state[c] = IDLE;
                waited[c] = 0;
                came[c] = 0;
                takenIn[c] = 0;
            }
            callingAgain = 0;
            comings = 0;
            minute = 0;
            serving = plan.serving;
            rule = plan.rule;
        }

        void copyFrom(Line other) {
            System.arraycopy(other.state, 0, state, 0, MOST_CALLERS);
            System.arraycopy(other.waited, 0, waited, 0, MOST_CALLERS);
            System.arraycopy(other.came, 0, came, 0, MOST_CALLERS);
            System.arraycopy(other.takenIn, 0, takenIn, 0, MOST_CALLERS);
            callingAgain = other.callingAgain;
            comings = other.comings;
            minute = other.minute;
            serving = other.serving;
            rule = other.rule;
        }

        void goOnFor(Plan plan, int minutes) {
            for (int i = 0; i < minutes; i++) {
                goOn(plan);
            }
        }

        void goOn(Plan plan) {
            admitWhoCall(plan);
            admitWhoCallAgain(plan);
            finishServed(plan);
            takeNextOnes(plan);
            waitAMinute(plan);
            giveUpAtOnce(plan);
            minute++;
        }

        private void admitWhoCall(Plan plan) {
            for (int c = 0; c < plan.callers; c++) {
                if (state[c] == IDLE && !isCallingAgain(c) && plan.callsIn[c] == minute) {
                    admit(c);
                }
            }
        }

        private void admitWhoCallAgain(Plan plan) {
            for (int c = 0; c < plan.callers; c++) {
                if (state[c] == IDLE && isCallingAgain(c)) {
                    admit(c);
                }
            }
            callingAgain = 0;
        }

        private boolean isCallingAgain(int c) {
            return (callingAgain >> c & 1) == 1;
        }

        private void admit(int c) {
            state[c] = WAITS;
            waited[c] = 0;
            came[c] = comings;
            comings++;
        }

        private void finishServed(Plan plan) {
            for (int c = 0; c < plan.callers; c++) {
                if (state[c] == SERVED && minute - takenIn[c] >= plan.minutesEach) {
                    state[c] = THROUGH;
                }
            }
        }

        private void takeNextOnes(Plan plan) {
            int free = serving - countIn(plan, SERVED);
            for (int i = 0; i < free; i++) {
                int c = nextOne(plan);
                if (c == NONE) {
                    return;
                }
                state[c] = SERVED;
                takenIn[c] = minute;
            }
        }

        private int nextOne(Plan plan) {
            int found = NONE;
            for (int c = 0; c < plan.callers; c++) {
                if (state[c] == WAITS && (found == NONE || isAhead(plan, c, found))) {
                    found = c;
                }
            }
            return found;
        }

        private boolean isAhead(Plan plan, int a, int b) {
            if (rule == LAST_COME) {
                return came[a] > came[b];
            }
            if (rule == MOST_WORTH && plan.worth[a] != plan.worth[b]) {
                return plan.worth[a] > plan.worth[b];
            }
            return came[a] < came[b];
        }

        private void waitAMinute(Plan plan) {
            for (int c = 0; c < plan.callers; c++) {
                if (state[c] == WAITS) {
                    waited[c]++;
                }
            }
        }

        /** All are found before the first one gives up: at once means that each is still AHEAD of the others. */
        private void giveUpAtOnce(Plan plan) {
            int giving = 0;
            for (int c = 0; c < plan.callers; c++) {
                if (state[c] == WAITS) {
                    int most = mostBorne(plan, c, countAhead(plan, c));
                    if (most != NONE && waited[c] >= most) {
                        giving |= 1 << c;
                    }
                }
            }
            for (int c = 0; c < plan.callers; c++) {
                if ((giving >> c & 1) == 1) {
                    state[c] = GAVE_UP;
                }
            }
        }

        /** How long one who WAITS bears it, with so many AHEAD; NONE: any time. */
        static int mostBorne(Plan plan, int c, int ahead) {
            int patience = plan.patience[c];
            switch (plan.kind[c]) {
                case TOLD: return ahead >= 2 ? patience : NONE;
                case COOKING: return 2 * patience;
                case NERVOUS: return Math.max(1, patience - ahead);
                default: return patience;
            }
        }

        int countAhead(Plan plan, int c) {
            int many = 0;
            for (int other = 0; other < plan.callers; other++) {
                if (state[other] == WAITS && isAhead(plan, other, c)) {
                    many++;
                }
            }
            return many;
        }

        boolean canHangUp(int c) {
            return state[c] == WAITS;
        }

        void hangUp(int c) {
            state[c] = GAVE_UP;
        }

        boolean canCallAgain(int c) {
            return state[c] == THROUGH || state[c] == GAVE_UP;
        }

        void callAgain(int c) {
            state[c] = IDLE;
            callingAgain |= 1 << c;
        }

        boolean isToBeTaken(int c) {
            return state[c] == WAITS || state[c] == IDLE;
        }

        boolean isTaken(int c) {
            return state[c] == SERVED || state[c] == THROUGH;
        }

        boolean hasLeft(int c) {
            return state[c] == THROUGH || state[c] == GAVE_UP;
        }

        int countIn(Plan plan, int which) {
            int many = 0;
            for (int c = 0; c < plan.callers; c++) {
                if (state[c] == which) {
                    many++;
                }
            }
            return many;
        }

        int worthThrough(Plan plan) {
            int worth = 0;
            for (int c = 0; c < plan.callers; c++) {
                if (state[c] == THROUGH) {
                    worth += plan.worth[c];
                }
            }
            return worth;
        }
    }

    /** Lines put away, the last one taken back first. */
    private static final class Shelf {
        private final Line[] lines;
        private int oldest;
        int size;

        /** Room is made here once, so that putting a line away makes nothing. */
        Shelf(int room) {
            lines = new Line[Math.max(1, room)];
            for (int i = 0; i < lines.length; i++) {
                lines[i] = new Line();
            }
        }

        void clear() {
            size = 0;
        }

        /** Puts a copy away; where there is no room, the oldest goes. */
        void put(Line line) {
            if (size == lines.length) {
                oldest = (oldest + 1) % lines.length;
                size--;
            }
            lines[(oldest + size) % lines.length].copyFrom(line);
            size++;
        }

        boolean giveLastTo(Line line) {
            if (size == 0) {
                return false;
            }
            size--;
            line.copyFrom(lines[(oldest + size) % lines.length]);
            return true;
        }
    }

    /** What is SEEN, one behind the other. */
    private static final class Sightings {
        final int[] who = new int[MOST_SEEN];
        final int[] minutes = new int[MOST_SEEN];
        final boolean[] gaveUp = new boolean[MOST_SEEN];
        int size;

        void add(int c, int t, boolean gave) {
            if (size < MOST_SEEN) {
                who[size] = c;
                minutes[size] = t;
                gaveUp[size] = gave;
                size++;
            }
        }

        void clear() {
            size = 0;
        }
    }
}
