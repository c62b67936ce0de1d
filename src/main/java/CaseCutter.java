/**
 * A compiler of choices: cases with an aim and a weight, cut into parts behind
 * a tree of comparisons so that all together cost least. ../shared/DOC.md says
 * what each call answers; the words in capitals here are the document's.
 *
 * Every row is made by the constructor and used again: no call makes an object.
 */
public final class CaseCutter {
    public static final int BAD = -1, FULL = -2, FINDING = -3, STATE = -4, SPENT = -6, NONE = -9;

    private static final int NOTHING = 1, BEYOND = 2, UNLIKE = 3, NOUGHT = 4, SIZE = 5;
    private static final int FINDINGS = 5;

    private static final int ROWS = 6, ROW_PLACES = 40;
    private static final int TEXTS = 4, TEXT_PLACES = 120;
    private static final int CASES = 12, AIMS = 8, WEIGHTS = 10;
    private static final int DEEDS = 40, KEPT = 3, MOST_LOTS = 20;
    private static final int LETTERS = 26, NAME_LETTERS = 6;
    private static final int LEAST_INT = -2147483648, GREATEST_INT = 2147483647;

    private static final int LONE = 1, ROWED = 2, MASKED = 3, POINT = 4;
    private static final int ROWED_SPAN = 64, ROWED_THINNEST = 4;
    private static final int MASKED_SPAN = 32, MASKED_AIMS = 2;
    private static final int NO_AIM = 8;

    private static final int TOLD_KINDS = 4, PART_KINDS = 6, PART_KINDS_IN_DIGEST = 5, COUNT_KINDS = 12;
    private static final int LOT_FACTOR = 48271, LOT_MODULUS = 2147483647;

    private final Strip[] rows = new Strip[ROWS];
    private final Strip[] texts = new Strip[TEXTS];
    private final Program now = new Program();
    private final Program[] keptPrograms = new Program[KEPT];
    private final boolean[] isKept = new boolean[KEPT];
    private final Program draft = new Program();
    private final Reader reader = new Reader();
    private final Writer writer = new Writer();
    private final Plan plan = new Plan();
    private final Plan otherPlan = new Plan();
    private final int[] timesFound = new int[FINDINGS + 1];
    private boolean planIsOld = true;
    private int answer = 0;
    private long latestMask = 0;
    private int latestFinding = 0;

    public CaseCutter() {
        for (int r = 0; r < ROWS; r++) {
            rows[r] = new Strip(ROW_PLACES);
        }
        for (int t = 0; t < TEXTS; t++) {
            texts[t] = new Strip(TEXT_PLACES);
        }
        for (int k = 0; k < KEPT; k++) {
            keptPrograms[k] = new Program();
        }
    }

    // ---- 1 rows, texts, programs

    public int row(int r, int n) {
        if (!isRow(r) || n > ROW_PLACES) {
            return BAD;
        }
        if (n < 0) {
            return found(SIZE);
        }
        rows[r].fill(n, 0);
        return n;
    }

    public int lay(int r, int i, int v) {
        if (!isRow(r)) {
            return BAD;
        }
        if (rows[r].isMissing()) {
            return found(NOTHING);
        }
        if (!rows[r].has(i)) {
            return found(BEYOND);
        }
        answer = rows[r].places[i];
        rows[r].places[i] = v;
        return 1;
    }

    public int at(int r, int i) {
        if (!isRow(r)) {
            return BAD;
        }
        if (rows[r].isMissing()) {
            return found(NOTHING);
        }
        if (!rows[r].has(i)) {
            return found(BEYOND);
        }
        answer = rows[r].places[i];
        return 1;
    }

    public int tear(int r) {
        if (!isRow(r)) {
            return BAD;
        }
        if (rows[r].isMissing()) {
            return found(NOTHING);
        }
        rows[r].drop();
        return 1;
    }

    public int copy(int r, int i, int to, int j, int n) {
        if (!isRow(r) || !isRow(to)) {
            return BAD;
        }
        if (n < 0) {
            return found(SIZE);
        }
        if (rows[r].isMissing() || rows[to].isMissing()) {
            return found(NOTHING);
        }
        if (!rows[r].hasFrom(i, n) || !rows[to].hasFrom(j, n)) {
            return found(BEYOND);
        }
        System.arraycopy(rows[r].places, i, rows[to].places, j, n);
        return 1;
    }

    public int mean(int r) {
        if (!isRow(r)) {
            return BAD;
        }
        if (rows[r].isMissing()) {
            return found(NOTHING);
        }
        if (rows[r].size == 0) {
            return found(NOUGHT);
        }
        answer = (int) (rows[r].sum() / rows[r].size);
        return 1;
    }

    public int text(int t, int n) {
        if (!isText(t) || n > TEXT_PLACES) {
            return BAD;
        }
        if (n < 0) {
            return found(SIZE);
        }
        texts[t].fill(n, ' ');
        return n;
    }

    public int put(int t, int i, int v) {
        if (!isText(t)) {
            return BAD;
        }
        if (texts[t].isMissing()) {
            return found(NOTHING);
        }
        if (!texts[t].has(i)) {
            return found(BEYOND);
        }
        int before = texts[t].places[i];
        texts[t].places[i] = (byte) v;
        return before + 1000;
    }

    public int fault(int t) {
        if (!isText(t)) {
            return BAD;
        }
        if (texts[t].isMissing()) {
            return found(NOTHING);
        }
        return reader.read(texts[t], draft);
    }

    public int program(int t) {
        if (!isText(t)) {
            return BAD;
        }
        if (texts[t].isMissing()) {
            return found(NOTHING);
        }
        if (reader.read(texts[t], draft) != NONE) {
            return STATE;
        }
        now.take(draft);
        for (int k = 0; k < KEPT; k++) {
            isKept[k] = false;
        }
        planIsOld = true;
        return now.size;
    }

    public int write(int t) {
        if (!isText(t)) {
            return BAD;
        }
        int size = writer.writeOut(now);
        if (size > TEXT_PLACES) {
            return SPENT;
        }
        texts[t].fill(size, ' ');
        System.arraycopy(writer.bytes, 0, texts[t].places, 0, size);
        return size;
    }

    public int hash(int r) {
        if (!isRow(r)) {
            return BAD;
        }
        Strip name = rows[r];
        if (name.isMissing()) {
            return found(NOTHING);
        }
        if (name.size < 1 || name.size > NAME_LETTERS) {
            return found(SIZE);
        }
        int h = 0;
        for (int i = 0; i < name.size; i++) {
            if (name.places[i] < 0 || name.places[i] >= LETTERS) {
                return found(UNLIKE);
            }
            h = hashWith(h, 'a' + name.places[i]);
        }
        answer = h;
        return 1;
    }

    public int told(int i, int what) {
        if (!now.has(i) || what < 0 || what >= TOLD_KINDS) {
            return BAD;
        }
        answer = now.valueOf(i, what);
        return 1;
    }

    // ---- 2 deeds

    public int add(int low, int high, int aim, int weight) {
        if (low > high || !isAim(aim) || !isWeight(weight)) {
            return BAD;
        }
        if (!now.isFree(low, high)) {
            return STATE;
        }
        if (now.size >= CASES || now.deeds >= DEEDS) {
            return FULL;
        }
        planIsOld = true;
        return now.addCase(low, high, aim, weight);
    }

    public int cut(int i) {
        if (!now.has(i)) {
            return BAD;
        }
        if (now.deeds >= DEEDS) {
            return FULL;
        }
        now.cutCase(i);
        planIsOld = true;
        return now.size;
    }

    public int aim(int i, int aim) {
        if (!now.has(i) || !isAim(aim)) {
            return BAD;
        }
        int before = now.aims[i];
        if (before == aim) {
            return STATE;
        }
        if (now.deeds >= DEEDS) {
            return FULL;
        }
        now.aimCase(i, aim);
        planIsOld = true;
        return before;
    }

    public int weigh(int i, int weight) {
        if (!now.has(i) || !isWeight(weight)) {
            return BAD;
        }
        int before = now.weights[i];
        if (before == weight) {
            return STATE;
        }
        if (now.deeds >= DEEDS) {
            return FULL;
        }
        now.weighCase(i, weight);
        planIsOld = true;
        return before;
    }

    public int undo(int n) {
        if (n < 0 || n > now.deeds) {
            return BAD;
        }
        int undone = now.deeds - n;
        for (int i = 0; i < undone; i++) {
            now.undoLatest();
        }
        planIsOld = true;
        return undone;
    }

    public int keep(int k) {
        if (!isKeptPlace(k)) {
            return BAD;
        }
        keptPrograms[k].take(now);
        isKept[k] = true;
        return now.deeds;
    }

    public int on(int k) {
        if (!isKeptPlace(k)) {
            return BAD;
        }
        if (!isKept[k]) {
            return found(NOTHING);
        }
        now.take(keptPrograms[k]);
        planIsOld = true;
        return now.deeds;
    }

    // ---- 3 the plan

    public int reach(int x) {
        int i = now.ownerOf(x);
        if (i < 0) {
            return NONE;
        }
        answer = i;
        return now.aims[i];
    }

    public int run(int x) {
        renewPlan();
        int k = plan.partLookingAt(now, x);
        answer = k < 0 ? 0 : plan.stepsThrough(k);
        int i = now.ownerOf(x);
        return i < 0 ? NONE : now.aims[i];
    }

    public int cost() {
        renewPlan();
        return plan.price;
    }

    public int part(int k, int what) {
        renewPlan();
        if (!plan.has(k) || what < 0 || what >= PART_KINDS) {
            return BAD;
        }
        answer = plan.valueOf(now, k, what);
        return 1;
    }

    public int mark(int k, int sort) {
        renewPlan();
        if (!plan.has(k) || sort < LONE || sort > POINT) {
            return BAD;
        }
        int own = plan.sortOf(k);
        if (own != sort && !(own == POINT && sort == LONE)) {
            return found(UNLIKE);
        }
        answer = markOf(plan.first[k], plan.last[k], sort);
        return 1;
    }

    private int markOf(int i, int j, int sort) {
        switch (sort) {
            case LONE:
                return now.lows[i];
            case ROWED:
                return (int) (now.span(i, j) - now.numbersIn(i, j));
            case MASKED:
                return now.aimsIn(i, j);
            default:
                return now.aims[i];
        }
    }

    public int jump(int k, int i) {
        renewPlan();
        if (!plan.has(k)) {
            return BAD;
        }
        if (plan.sortOf(k) != ROWED) {
            return found(UNLIKE);
        }
        int first = plan.first[k];
        if (i < 0 || i >= now.span(first, plan.last[k])) {
            return found(BEYOND);
        }
        int owner = now.ownerOf(now.lows[first] + i);
        answer = owner < 0 ? NO_AIM : now.aims[owner];
        return 1;
    }

    public int mask(int k, int aim) {
        renewPlan();
        if (!plan.has(k) || !isAim(aim)) {
            return BAD;
        }
        if (plan.sortOf(k) != MASKED) {
            return found(UNLIKE);
        }
        int first = plan.first[k];
        long span = now.span(first, plan.last[k]);
        long bits = 0;
        for (int b = 0; b < span && b < MASKED_SPAN; b++) {
            int owner = now.ownerOf(now.lows[first] + b);
            if (owner >= 0 && now.aims[owner] == aim) {
                bits |= 1L << b;
            }
        }
        latestMask = bits;
        return 1;
    }

    public int only(int sort) {
        if (sort < LONE || sort > MASKED) {
            return BAD;
        }
        otherPlan.make(now, sort == ROWED, sort == MASKED);
        return otherPlan.price;
    }

    public int chain() {
        int behind = now.rest;
        int all = 0;
        for (int i = now.size - 1; i >= 0; i--) {
            behind += now.weights[i];
            all += now.loneSteps(i) * behind;
        }
        return all;
    }

    public int worst() {
        if (now.size == 0) {
            return STATE;
        }
        renewPlan();
        int worstPart = 0;
        for (int k = 1; k < plan.parts; k++) {
            if (plan.stepsThrough(k) > plan.stepsThrough(worstPart)) {
                worstPart = k;
            }
        }
        answer = plan.stepsThrough(worstPart);
        return plan.first[worstPart];
    }

    public int swing(int i) {
        if (!now.has(i)) {
            return BAD;
        }
        renewPlan();
        draft.take(now);
        for (int weight = 0; weight < WEIGHTS; weight++) {
            if (weight != now.weights[i]) {
                draft.weights[i] = weight;
                otherPlan.make(draft, true, true);
                if (!otherPlan.hasPartsOf(plan)) {
                    answer = otherPlan.parts;
                    return weight;
                }
            }
        }
        return NONE;
    }

    public long covered(int low, int high) {
        if (low > high) {
            return BAD;
        }
        long all = 0;
        for (int i = 0; i < now.size; i++) {
            long from = Math.max(low, now.lows[i]);
            long to = Math.min(high, now.highs[i]);
            if (from <= to) {
                all += to - from + 1;
            }
        }
        return all;
    }

    // ---- 4 lots

    public int lots(int n, int seed) {
        if (n < 1 || n > MOST_LOTS || seed < 1 || seed >= LOT_MODULUS) {
            return BAD;
        }
        if (now.deeds + n > DEEDS) {
            return FULL;
        }
        int number = seed;
        for (int i = 0; i < n; i++) {
            number = (int) ((long) LOT_FACTOR * number % LOT_MODULUS);
            doByLot(number);
        }
        planIsOld = true;
        return now.size;
    }

    private void doByLot(int number) {
        if (number % 4 == 0) {
            if (now.size == 0) {
                now.doNothing();
            } else {
                now.cutCase(number / 4 % now.size);
            }
            return;
        }
        int low = number / 4 % 48 - 24;
        int high = low + number / 256 % 3;
        if (now.size < CASES && now.isFree(low, high)) {
            now.addCase(low, high, number / 16 % AIMS, number / 128 % WEIGHTS);
        } else {
            now.doNothing();
        }
    }

    // ---- 5 what is told

    public int asked() {
        return answer;
    }

    public long mask0() {
        return latestMask;
    }

    public int count(int what) {
        if (what < 0 || what >= COUNT_KINDS) {
            return BAD;
        }
        renewPlan();
        switch (what) {
            case 0:
                return now.size;
            case 1:
                return plan.parts;
            case 2:
                return Math.max(plan.parts - 1, 0);
            case 3:
                return now.weightIn(0, now.size - 1) + now.rest;
            case 4:
                return plan.partsOf(LONE) + plan.partsOf(POINT);
            case 5:
                return plan.partsOf(ROWED);
            case 6:
                return plan.partsOf(MASKED);
            case 7:
                return now.rest;
            case 8:
                return now.deeds;
            case 9:
                return howManyAreThere(rows);
            case 10:
                return howManyAreThere(texts);
            default:
                return howManyAreKept();
        }
    }

    public int finding() {
        return latestFinding;
    }

    public int findings(int f) {
        if (f < 1 || f > FINDINGS) {
            return BAD;
        }
        return timesFound[f];
    }

    public long digest() {
        long h = 17;
        for (int what = 0; what < COUNT_KINDS; what++) {
            h = 31 * h + count(what);
        }
        for (int i = 0; i < now.size; i++) {
            for (int what = 0; what < TOLD_KINDS; what++) {
                h = 31 * h + now.valueOf(i, what);
            }
        }
        for (int k = 0; k < plan.parts; k++) {
            for (int what = 0; what < PART_KINDS_IN_DIGEST; what++) {
                h = 31 * h + plan.valueOf(now, k, what);
            }
        }
        for (int k = 0; k < KEPT; k++) {
            h = 31 * h + (isKept[k] ? keptPrograms[k].deeds : -1);
        }
        return digestOf(texts, digestOf(rows, h));
    }

    private static long digestOf(Strip[] strips, long before) {
        long h = before;
        for (int s = 0; s < strips.length; s++) {
            h = 31 * h + strips[s].size;
            for (int i = 0; i < strips[s].size; i++) {
                h = 31 * h + strips[s].places[i];
            }
        }
        return h;
    }

    // ---- helpers of several calls

    private int found(int f) {
        latestFinding = f;
        timesFound[f]++;
        return FINDING;
    }

    private void renewPlan() {
        if (planIsOld) {
            plan.make(now, true, true);
            planIsOld = false;
        }
    }

    private static int howManyAreThere(Strip[] strips) {
        int n = 0;
        for (int s = 0; s < strips.length; s++) {
            if (!strips[s].isMissing()) {
                n++;
            }
        }
        return n;
    }

    private int howManyAreKept() {
        int n = 0;
        for (int k = 0; k < KEPT; k++) {
            if (isKept[k]) {
                n++;
            }
        }
        return n;
    }

    private static boolean isRow(int r) {
        return r >= 0 && r < ROWS;
    }

    private static boolean isText(int t) {
        return t >= 0 && t < TEXTS;
    }

    private static boolean isKeptPlace(int k) {
        return k >= 0 && k < KEPT;
    }

    private static boolean isAim(int aim) {
        return aim >= 0 && aim < AIMS;
    }

    private static boolean isWeight(int weight) {
        return weight >= 0 && weight < WEIGHTS;
    }

    private static int hashWith(int hash, int letter) {
        return 31 * hash + letter;
    }

    /** A ROW or a TEXT: as many places as it may ever have, of which the first are there. */
    private static final class Strip {
        final int[] places;
        int size = -1;

        Strip(int most) {
            places = new int[Math.max(most, 0)];
        }

        boolean isMissing() {
            return size < 0;
        }

        boolean has(int i) {
            return i >= 0 && i < size;
        }

        /** By a subtraction, as i + n could go round. */
        boolean hasFrom(int i, int n) {
            return i >= 0 && n >= 0 && i <= size && n <= size - i;
        }

        void fill(int n, int v) {
            size = Math.min(Math.max(n, 0), places.length);
            for (int i = 0; i < size; i++) {
                places[i] = v;
            }
        }

        void drop() {
            size = -1;
        }

        long sum() {
            long all = 0;
            for (int i = 0; i < size; i++) {
                all += places[i];
            }
            return all;
        }
    }

    /** CASES by LOW, REST, and the DEEDS with what each one needs to be undone. */
    private static final class Program {
        static final int IDLE = 0, ADDED = 1, WAS_CUT = 2, AIMED = 3, WEIGHED = 4;

        final int[] lows = new int[CASES];
        final int[] highs = new int[CASES];
        final int[] aims = new int[CASES];
        final int[] weights = new int[CASES];
        int size = 0;
        int rest = 0;

        final int[] deedKinds = new int[DEEDS];
        final int[] deedCases = new int[DEEDS];
        final int[] deedLows = new int[DEEDS];
        final int[] deedHighs = new int[DEEDS];
        final int[] deedAims = new int[DEEDS];
        final int[] deedWeights = new int[DEEDS];
        int deeds = 0;

        void clear() {
            size = 0;
            rest = 0;
            deeds = 0;
        }

        void take(Program other) {
            size = other.size;
            rest = other.rest;
            deeds = other.deeds;
            System.arraycopy(other.lows, 0, lows, 0, size);
            System.arraycopy(other.highs, 0, highs, 0, size);
            System.arraycopy(other.aims, 0, aims, 0, size);
            System.arraycopy(other.weights, 0, weights, 0, size);
            System.arraycopy(other.deedKinds, 0, deedKinds, 0, deeds);
            System.arraycopy(other.deedCases, 0, deedCases, 0, deeds);
            System.arraycopy(other.deedLows, 0, deedLows, 0, deeds);
            System.arraycopy(other.deedHighs, 0, deedHighs, 0, deeds);
            System.arraycopy(other.deedAims, 0, deedAims, 0, deeds);
            System.arraycopy(other.deedWeights, 0, deedWeights, 0, deeds);
        }

        boolean has(int i) {
            return i >= 0 && i < size;
        }

        int valueOf(int i, int what) {
            switch (what) {
                case 0:
                    return lows[i];
                case 1:
                    return highs[i];
                case 2:
                    return aims[i];
                default:
                    return weights[i];
            }
        }

        int ownerOf(int x) {
            for (int i = 0; i < size; i++) {
                if (lows[i] <= x && x <= highs[i]) {
                    return i;
                }
            }
            return -1;
        }

        boolean isFree(int low, int high) {
            for (int i = 0; i < size; i++) {
                if (lows[i] <= high && low <= highs[i]) {
                    return false;
                }
            }
            return true;
        }

        /** As a long: from the least int to the greatest there are more than an int tells. */
        long span(int i, int j) {
            return (long) highs[j] - lows[i] + 1;
        }

        long numbersIn(int i, int j) {
            long all = 0;
            for (int c = i; c <= j; c++) {
                all += span(c, c);
            }
            return all;
        }

        int aimsIn(int i, int j) {
            int seen = 0;
            for (int c = i; c <= j; c++) {
                seen |= 1 << aims[c];
            }
            return Integer.bitCount(seen);
        }

        int weightIn(int i, int j) {
            int all = 0;
            for (int c = i; c <= j; c++) {
                all += weights[c];
            }
            return all;
        }

        int loneSteps(int i) {
            return lows[i] == highs[i] ? 1 : 2;
        }

        int addCase(int low, int high, int aim, int weight) {
            int i = insert(low, high, aim, weight);
            noteDeed(ADDED, i);
            return i;
        }

        void cutCase(int i) {
            noteDeed(WAS_CUT, i);
            remove(i);
        }

        void aimCase(int i, int aim) {
            noteDeed(AIMED, i);
            aims[i] = aim;
        }

        void weighCase(int i, int weight) {
            noteDeed(WEIGHED, i);
            weights[i] = weight;
        }

        void doNothing() {
            if (deeds < DEEDS) {
                deedKinds[deeds] = IDLE;
                deeds++;
            }
        }

        /** Back from the latest DEED on, the numbers that CASES had then are right again. */
        void undoLatest() {
            if (deeds < 1) {
                return;
            }
            deeds--;
            int i = deedCases[deeds];
            switch (deedKinds[deeds]) {
                case ADDED:
                    remove(i);
                    break;
                case WAS_CUT:
                    insert(deedLows[deeds], deedHighs[deeds], deedAims[deeds], deedWeights[deeds]);
                    break;
                case AIMED:
                    aims[i] = deedAims[deeds];
                    break;
                case WEIGHED:
                    weights[i] = deedWeights[deeds];
                    break;
                default:
                    break;
            }
        }

        int insert(int low, int high, int aim, int weight) {
            if (size >= CASES) {
                return -1;
            }
            int i = size;
            while (i > 0 && lows[i - 1] > low) {
                lows[i] = lows[i - 1];
                highs[i] = highs[i - 1];
                aims[i] = aims[i - 1];
                weights[i] = weights[i - 1];
                i--;
            }
            lows[i] = low;
            highs[i] = high;
            aims[i] = aim;
            weights[i] = weight;
            size++;
            return i;
        }

        private void remove(int i) {
            if (!has(i)) {
                return;
            }
            size--;
            for (int c = i; c < size; c++) {
                lows[c] = lows[c + 1];
                highs[c] = highs[c + 1];
                aims[c] = aims[c + 1];
                weights[c] = weights[c + 1];
            }
        }

        private void noteDeed(int kind, int i) {
            if (deeds >= DEEDS || !has(i)) {
                return;
            }
            deedKinds[deeds] = kind;
            deedCases[deeds] = i;
            deedLows[deeds] = lows[i];
            deedHighs[deeds] = highs[i];
            deedAims[deeds] = aims[i];
            deedWeights[deeds] = weights[i];
            deeds++;
        }
    }

    /** THE PLAN of a PROGRAM: for all CASES i to j the cheapest, from few CASES to many. */
    private static final class Plan {
        static final int WHOLE = -1;

        final int[][] sorts = new int[CASES][CASES];
        final int[][] steps = new int[CASES][CASES];
        final int[][] prices = new int[CASES][CASES];
        final int[][] lastAhead = new int[CASES][CASES];
        final int[] first = new int[CASES];
        final int[] last = new int[CASES];
        final int[] depth = new int[CASES];
        int parts = 0;
        int price = 0;

        void make(Program program, boolean rowed, boolean masked) {
            int n = program.size;
            for (int length = 1; length <= n; length++) {
                for (int i = 0; i + length <= n; i++) {
                    int j = i + length - 1;
                    sortOut(program, i, j, rowed, masked);
                    choose(i, j, program.weightIn(i, j));
                }
            }
            parts = 0;
            price = 0;
            if (n > 0) {
                price = prices[0][n - 1];
                layOut(0, n - 1, 0);
            }
        }

        private void sortOut(Program program, int i, int j, boolean rowed, boolean masked) {
            sorts[i][j] = 0;
            steps[i][j] = 0;
            long span = program.span(i, j);
            if (i == j) {
                // no SORT has fewer STEPS, and of like ones these are the first
                sorts[i][j] = span == 1 ? POINT : LONE;
                steps[i][j] = program.loneSteps(i);
                return;
            }
            if (rowed && span <= ROWED_SPAN && span <= ROWED_THINNEST * program.numbersIn(i, j)) {
                sorts[i][j] = ROWED;
                steps[i][j] = 3;
            }
            int aims = program.aimsIn(i, j);
            if (masked && span <= MASKED_SPAN && aims <= MASKED_AIMS
                    && (sorts[i][j] == 0 || 1 + aims < steps[i][j])) {
                sorts[i][j] = MASKED;
                steps[i][j] = 1 + aims;
            }
        }

        private void choose(int i, int j, int weight) {
            int least = sorts[i][j] == 0 ? GREATEST_INT : steps[i][j] * weight;
            int where = WHOLE;
            for (int m = i; m < j; m++) {
                int there = weight + prices[i][m] + prices[m + 1][j];
                if (there < least) {
                    least = there;
                    where = m;
                }
            }
            prices[i][j] = least;
            lastAhead[i][j] = where;
        }

        private void layOut(int i, int j, int comparisons) {
            if (comparisons >= CASES || parts >= CASES) {
                return;
            }
            int m = lastAhead[i][j];
            if (m == WHOLE) {
                first[parts] = i;
                last[parts] = j;
                depth[parts] = comparisons;
                parts++;
                return;
            }
            layOut(i, m, comparisons + 1);
            layOut(m + 1, j, comparisons + 1);
        }

        boolean has(int k) {
            return k >= 0 && k < parts;
        }

        int sortOf(int k) {
            return sorts[first[k]][last[k]];
        }

        int stepsOf(int k) {
            return steps[first[k]][last[k]];
        }

        int stepsThrough(int k) {
            return depth[k] + stepsOf(k);
        }

        int partsOf(int sort) {
            int n = 0;
            for (int k = 0; k < parts; k++) {
                if (sortOf(k) == sort) {
                    n++;
                }
            }
            return n;
        }

        int valueOf(Program program, int k, int what) {
            switch (what) {
                case 0:
                    return sortOf(k);
                case 1:
                    return first[k];
                case 2:
                    return last[k];
                case 3:
                    return depth[k];
                case 4:
                    return stepsOf(k);
                default:
                    long span = program.span(first[k], last[k]);
                    return span > GREATEST_INT ? -1 : (int) span;
            }
        }

        /**
         * All COMPARISONS are with the LOW of a PART's first CASE, so they lead to
         * the last PART whose LOW the selector is not below, or else to the first.
         */
        int partLookingAt(Program program, int x) {
            if (parts == 0) {
                return -1;
            }
            int k = 0;
            while (k + 1 < parts && x >= program.lows[first[k + 1]]) {
                k++;
            }
            return k;
        }

        boolean hasPartsOf(Plan other) {
            if (parts != other.parts) {
                return false;
            }
            for (int k = 0; k < parts; k++) {
                if (first[k] != other.first[k] || last[k] != other.last[k] || sortOf(k) != other.sortOf(k)) {
                    return false;
                }
            }
            return true;
        }
    }

    /** Reads a TEXT token by token; where it stops, the latest token's place is the FAULT. */
    private static final class Reader {
        static final int END = 0, WORD = 1, NUMBER = 2, SEMICOLON = 3, WRONG = 4;
        static final long TOO_MUCH = 1L << 40;

        final int[] bytes = new int[TEXT_PLACES];
        int size = 0;
        int place = 0;
        int kind = END;
        int start = 0;
        long number = 0;
        int low = 0;
        int high = 0;
        boolean restIsTold = false;

        /** The FAULT of the text, or NONE, and then the program is what the text tells. */
        int read(Strip text, Program program) {
            size = Math.min(Math.max(text.size, 0), TEXT_PLACES);
            System.arraycopy(text.places, 0, bytes, 0, size);
            place = 0;
            restIsTold = false;
            program.clear();
            for (int statement = 0; statement <= TEXT_PLACES; statement++) {
                step();
                if (kind == END) {
                    return NONE;
                }
                if (!readStatement(program)) {
                    return start;
                }
            }
            return start;
        }

        private boolean readStatement(Program program) {
            if (kind != WORD) {
                return false;
            }
            if (isWord("rest")) {
                return readRest(program);
            }
            boolean spanned = isWord("range");
            boolean named = isWord("name");
            if (!spanned && !named && !isWord("case") || program.size >= CASES) {
                return false;
            }
            boolean placed = named ? readName(program) : readNumbers(program, spanned);
            return placed && readAimAndWeight(program);
        }

        private boolean readRest(Program program) {
            if (restIsTold || !readNumber(0, WEIGHTS - 1)) {
                return false;
            }
            restIsTold = true;
            program.rest = (int) number;
            return readSemicolon();
        }

        private boolean readNumbers(Program program, boolean spanned) {
            if (!readNumber(LEAST_INT, GREATEST_INT)) {
                return false;
            }
            low = (int) number;
            high = low;
            // looked at ahead of B: a FAULT at A is the first one
            if (!program.isFree(low, high)) {
                return false;
            }
            if (!spanned) {
                return true;
            }
            if (!readNumber(low, GREATEST_INT)) {
                return false;
            }
            high = (int) number;
            return program.isFree(low, high);
        }

        private boolean readName(Program program) {
            step();
            if (kind != WORD || place - start > NAME_LETTERS) {
                return false;
            }
            low = 0;
            for (int i = start; i < place; i++) {
                low = hashWith(low, bytes[i]);
            }
            high = low;
            return program.isFree(low, high);
        }

        private boolean readAimAndWeight(Program program) {
            if (!readNumber(0, AIMS - 1)) {
                return false;
            }
            int itsAim = (int) number;
            if (!readNumber(0, WEIGHTS - 1)) {
                return false;
            }
            int itsWeight = (int) number;
            if (!readSemicolon()) {
                return false;
            }
            program.insert(low, high, itsAim, itsWeight);
            return true;
        }

        private boolean readNumber(long least, long most) {
            step();
            return kind == NUMBER && number >= least && number <= most;
        }

        private boolean readSemicolon() {
            step();
            return kind == SEMICOLON;
        }

        private boolean isWord(String word) {
            if (place - start != word.length()) {
                return false;
            }
            for (int i = 0; i < word.length(); i++) {
                if (bytes[start + i] != word.charAt(i)) {
                    return false;
                }
            }
            return true;
        }

        /** Goes on to the next token: it is from start up to place. */
        private void step() {
            while (place < size && bytes[place] == ' ') {
                place++;
            }
            start = place;
            if (place >= size) {
                kind = END;
                return;
            }
            int b = bytes[place];
            if (b >= 'a' && b <= 'z') {
                stepOverWord();
            } else if (b == '-' || b >= '0' && b <= '9') {
                stepOverNumber(b == '-');
            } else {
                kind = b == ';' ? SEMICOLON : WRONG;
                place++;
            }
        }

        private void stepOverWord() {
            kind = WORD;
            while (place < size && bytes[place] >= 'a' && bytes[place] <= 'z') {
                place++;
            }
        }

        private void stepOverNumber(boolean negative) {
            if (negative) {
                place++;
            }
            int figuresFrom = place;
            number = 0;
            while (place < size && bytes[place] >= '0' && bytes[place] <= '9') {
                // many figures must not go round to a number that may be
                if (number < TOO_MUCH) {
                    number = 10 * number + (bytes[place] - '0');
                }
                place++;
            }
            kind = place > figuresFrom ? NUMBER : WRONG;
            if (negative) {
                number = -number;
            }
        }
    }

    /** Writes a PROGRAM out; past the end of a TEXT it counts only, so that the size is told still. */
    private static final class Writer {
        final int[] bytes = new int[TEXT_PLACES];
        final int[] figures = new int[10];
        int size = 0;

        int writeOut(Program program) {
            size = 0;
            for (int i = 0; i < program.size; i++) {
                if (program.lows[i] == program.highs[i]) {
                    writeWord("case");
                    writeNumber(program.lows[i]);
                } else {
                    writeWord("range");
                    writeNumber(program.lows[i]);
                    writeNumber(program.highs[i]);
                }
                writeNumber(program.aims[i]);
                writeNumber(program.weights[i]);
                writeByte(';');
            }
            if (program.rest != 0) {
                writeWord("rest");
                writeNumber(program.rest);
                writeByte(';');
            }
            return size;
        }

        private void writeWord(String word) {
            for (int i = 0; i < word.length(); i++) {
                writeByte(word.charAt(i));
            }
        }

        private void writeNumber(int v) {
            writeByte(' ');
            if (v < 0) {
                writeByte('-');
            }
            long left = Math.abs((long) v);
            int n = 0;
            do {
                figures[n] = (int) (left % 10);
                left /= 10;
                n++;
            } while (left > 0 && n < figures.length);
            for (int i = n - 1; i >= 0; i--) {
                writeByte('0' + figures[i]);
            }
        }

        private void writeByte(int b) {
            if (size < bytes.length) {
                bytes[size] = b;
            }
            size++;
        }
    }
}
