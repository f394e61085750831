import java.util.Arrays;

/** A dance whose figures change partners by height. ../shared/DOC.md tells each method's promise. */
public final class HeelDance {
    public static final int BAD = -1, STATE = -2, FULL = -3, NONE = -4;

    private static final int MOST_MEN = 5;
    private static final int MOST_COUSINS = 6;
    private static final int MOST_FIGURES = 8;
    private static final int MOST_SEEN = 6;
    private static final int MOST_DANCED = 999;
    private static final int MOST_BYTES = 160;
    private static final int MOST_CELLS = 40;
    private static final int MOST_READ = 20;
    private static final int MOST_DRIFT = 60;
    private static final int MOST_PERIOD = 60;
    private static final int LONGEST_ROW = 4;
    private static final int LONGEST_ORDER = 5;
    private static final int GREATEST = 9;

    private static final int KINDS = 4;
    private static final int BOOTED = 1;
    private static final int BENT = 2;
    private static final int HEARTH = 3;

    private static final int FIGURES = 4;
    private static final int UP = 0;
    private static final int DOWN = 1;
    private static final int WALTZ = 2;

    private static final int IMAGES = 2;
    private static final int SHEETS = 4;
    private static final int LANES = 3;
    private static final int NOTHING = -1;
    private static final int BYTES = 0;
    private static final int SHORTS = 1;

    private static final int NULL = 1;
    private static final int INDEX = 2;
    private static final int CAST = 3;
    private static final int SIZE = 4;
    private static final int FAULTY = -10;
    private static final int REFUSED = -20;

    private static final int ROW_FROM = 10;
    private static final int ODDS = 10;

    private final Tape tape;
    private final Evening now;
    private final Evening[] images;
    private final boolean[] kept;
    private final Walk walk;
    private final Search search;
    private final Sheet[] sheets;
    private int latestFault;
    private int latestTear;

    public HeelDance() {
        tape = new Tape();
        now = new Evening();
        images = new Evening[IMAGES];
        for (int k = 0; k < IMAGES; k++) {
            images[k] = new Evening();
        }
        kept = new boolean[IMAGES];
        walk = new Walk();
        search = new Search();
        sheets = new Sheet[SHEETS];
        for (int k = 0; k < SHEETS; k++) {
            sheets[k] = new Sheet();
        }
        latestFault = 0;
        latestTear = 0;
    }

    // ---- the text

    public int feed(int c) {
        if (c < 0 || c > 127) {
            return BAD;
        }
        if (tape.length >= MOST_BYTES) {
            return FULL;
        }
        tape.bytes[tape.length] = c;
        tape.length++;
        return tape.length;
    }

    public int end(int n) {
        if (n < 0 || n > tape.length) {
            return BAD;
        }
        int had = tape.length;
        tape.length = n;
        return had;
    }

    public int text() {
        int lines = tape.wholeText();
        latestFault = tape.faultFound;
        tape.length = 0;
        if (latestFault != 0) {
            return FAULTY - tape.place;
        }
        now.copyFrom(tape.draft);
        for (int k = 0; k < IMAGES; k++) {
            kept[k] = false;
        }
        return lines;
    }

    public int fault() {
        return latestFault;
    }

    public int rule(int what) {
        switch (what) {
            case 0:
                return now.floor.men;
            case 1:
                return now.allKin();
            case 2:
                return now.figures;
            case 3:
                return now.floor.danced;
            case 4:
                return now.floor.roundBits();
            default:
                return BAD;
        }
    }

    public int man(int m, int what) {
        if (isNobody(m)) {
            return BAD;
        }
        Floor floor = now.floor;
        switch (what) {
            case 0:
                return floor.kind[m];
            case 1:
                return floor.height[m];
            case 2:
                return floor.heels[m];
            case 3:
                return floor.heat[m];
            case 4:
                return floor.stature(m) + 2;
            case 5:
                floor.lineUp();
                return floor.rankOf[m];
            case 6:
                return floor.womanWith(m);
            default:
                return BAD;
        }
    }

    public int woman(int w) {
        return isNobody(w) ? BAD : now.floor.partner[w];
    }

    public int at(int rank) {
        // there are as many RANKS as MEN
        if (isNobody(rank)) {
            return BAD;
        }
        now.floor.lineUp();
        return now.floor.byRank[rank];
    }

    public int figure(int i) {
        return i < 0 || i >= now.figures ? BAD : now.program[i];
    }

    public int cousins(int w) {
        return isNobody(w) ? BAD : now.kin[w];
    }

    // ---- what is changed

    public int alter(int m, int what, int v) {
        if (isNobody(m) || what < 0 || what > 3) {
            return BAD;
        }
        int greatest = what == 0 ? KINDS - 1 : GREATEST;
        if (v < 0 || v > greatest) {
            return BAD;
        }
        int[] row = now.floor.rowOf(what);
        int was = row[m];
        row[m] = v;
        return was;
    }

    public int swap(int w, int u) {
        if (isNobody(w) || isNobody(u) || w == u) {
            return BAD;
        }
        int[] partner = now.floor.partner;
        int first = partner[w];
        partner[w] = partner[u];
        partner[u] = first;
        return partner[w];
    }

    public int kin(int w, int m, boolean is) {
        if (isNobody(w) || isNobody(m)) {
            return BAD;
        }
        boolean were = now.areKin(w, m);
        if (is && !were && now.allKin() >= MOST_COUSINS) {
            return FULL;
        }
        if (is != were) {
            now.kin[w] ^= 1 << m;
        }
        return were ? 1 : 0;
    }

    public int plan(int f) {
        if (!isFigure(f)) {
            return BAD;
        }
        if (now.figures >= MOST_FIGURES) {
            return FULL;
        }
        now.addFigure(f);
        return now.figures;
    }

    public int cut(int n) {
        if (n < 0 || n > now.figures) {
            return BAD;
        }
        int had = now.figures;
        now.figures = n;
        return had;
    }

    // ---- the dance

    public int dance(int f) {
        if (!isFigure(f)) {
            return BAD;
        }
        if (now.floor.men == 0) {
            return STATE;
        }
        now.floor.step(f);
        return Integer.bitCount(now.floor.roundBits());
    }

    public int runs(int what) {
        if (what < 0 || what > 4) {
            return BAD;
        }
        walkNow();
        switch (what) {
            case 0:
                return Integer.bitCount(walk.floor.roundBits());
            case 1:
                return walk.floor.roundBits();
            case 2:
                return allMeetings();
            case 3:
                return firstMeeting();
            default:
                return sum(walk.floor.heels, walk.floor.men);
        }
    }

    public int ahead(int w, int k) {
        if (isNobody(w) || k < 0 || k > MOST_FIGURES) {
            return BAD;
        }
        walkNow();
        return walk.partnerBehind(w, k);
    }

    public int meets(int w, int m) {
        if (isNobody(w) || isNobody(m)) {
            return BAD;
        }
        walkNow();
        for (int k = 0; k <= walk.steps; k++) {
            if (walk.partnerBehind(w, k) == m) {
                return k;
            }
        }
        return NONE;
    }

    public int never(int w) {
        if (isNobody(w)) {
            return BAD;
        }
        walkNow();
        int missed = (1 << now.floor.men) - 1;
        for (int k = 0; k <= walk.steps; k++) {
            missed &= ~(1 << walk.partnerBehind(w, k));
        }
        return missed;
    }

    public int period(int f) {
        if (!isFigure(f)) {
            return BAD;
        }
        if (now.floor.men == 0) {
            return NONE;
        }
        Floor turning = walk.floor;
        turning.copyFrom(now.floor);
        turning.lineUp();
        for (int times = 1; times <= MOST_PERIOD; times++) {
            // neither wear nor HEAT: the RANKS stay as they are
            turning.change(f);
            if (turning.isPairedAs(now.floor)) {
                return times;
            }
        }
        return NONE;
    }

    // ---- what is best

    public int best(int n, int what) {
        if (n < 0 || n > LONGEST_ROW || what != 0 && what < ROW_FROM) {
            return BAD;
        }
        search.over(now, n, false);
        if (search.found == 0) {
            return NONE;
        }
        return what == 0 ? search.most : placeIn(search.bestRow, n, what);
    }

    public int orders(int what) {
        if (what < 0 || what > 1 && what < ROW_FROM) {
            return BAD;
        }
        if (now.figures > LONGEST_ORDER) {
            return STATE;
        }
        search.over(now, now.figures, true);
        if (what == 0) {
            return search.found;
        }
        if (search.found == 0) {
            return NONE;
        }
        return what == 1 ? search.most : placeIn(search.firstRow, now.figures, what);
    }

    public int again(int what) {
        if (what < 0 || what > 1) {
            return BAD;
        }
        int most = Integer.bitCount(roundRepeating(0));
        int place = NONE;
        for (int i = 0; i < now.figures; i++) {
            int round = Integer.bitCount(roundRepeating(1 << i));
            if (round > most) {
                most = round;
                place = i;
            }
        }
        return place == NONE || what == 0 ? place : most;
    }

    public int coins(int some) {
        if (some < 0 || some >= 1 << now.floor.men) {
            return BAD;
        }
        if (now.figures > LONGEST_ORDER) {
            return STATE;
        }
        int fewest = NONE;
        for (int repeated = 0; repeated < 1 << now.figures; repeated++) {
            int paid = Integer.bitCount(repeated);
            boolean cheaper = fewest == NONE || paid < fewest;
            if (cheaper && (roundRepeating(repeated) & some) == some) {
                fewest = paid;
            }
        }
        return fewest;
    }

    // ---- heels that break

    public long luck(int v, int w, int what) {
        if (v < 0 || v > ODDS || isNobody(w) || what < 0 || what > 1) {
            return BAD;
        }
        return fraction(weighed(v, 1 << w), power(ODDS, now.floor.men), what);
    }

    public long mean(int v, int what) {
        if (v < 0 || v > ODDS || what < 0 || what > 1) {
            return BAD;
        }
        int all = (1 << now.floor.men) - 1;
        return fraction(weighed(v, all), power(ODDS, now.floor.men), what);
    }

    // ---- what was seen

    public int see(int w, int k, int m) {
        if (isNobody(w) || k < 0 || k > MOST_FIGURES || isNobody(m)) {
            return BAD;
        }
        if (now.seen >= MOST_SEEN) {
            return FULL;
        }
        now.addSeen(w, k, m);
        return now.seen;
    }

    public int forget(int n) {
        if (n < 0 || n > now.seen) {
            return BAD;
        }
        int had = now.seen;
        now.seen = n;
        return had;
    }

    public int bent() {
        int bits = 0;
        for (int m = 0; m < now.floor.men; m++) {
            walk.floor.copyFrom(now.floor);
            walk.floor.kind[m] = BENT;
            if (walkIsAsSeen()) {
                bits |= 1 << m;
            }
        }
        return bits;
    }

    public int heights(int m) {
        if (isNobody(m)) {
            return BAD;
        }
        int bits = 0;
        for (int h = 0; h <= GREATEST; h++) {
            walk.floor.copyFrom(now.floor);
            walk.floor.height[m] = h;
            if (walkIsAsSeen()) {
                bits |= 1 << h;
            }
        }
        return bits;
    }

    public int shoes(int what) {
        if (what < 0 || what > 1) {
            return BAD;
        }
        int least = NONE;
        int pairs = 0;
        for (int m = 0; m < now.floor.men; m++) {
            for (int o = m + 1; o < now.floor.men; o++) {
                walk.floor.copyFrom(now.floor);
                walk.floor.heels[m] = now.floor.heels[o];
                walk.floor.heels[o] = now.floor.heels[m];
                if (walkIsAsSeen()) {
                    least = pairs == 0 ? 10 * m + o : least;
                    pairs++;
                }
            }
        }
        return what == 0 ? least : pairs;
    }

    // ---- by a seed

    public int drift(int seed, int n, int what) {
        if (n < 1 || n > MOST_DRIFT || what < 0 || what > 1) {
            return BAD;
        }
        if (now.floor.men == 0) {
            return STATE;
        }
        Floor floor = walk.floor;
        floor.copyFrom(now.floor);
        int state = seed;
        int summed = 0;
        for (int i = 0; i < n; i++) {
            state = state * 1103515245 + 12345;
            floor.step((state >>> 16 & 32767) % FIGURES);
            summed += Integer.bitCount(floor.roundBits());
        }
        return what == 0 ? summed : floor.partner[0];
    }

    // ---- images, sheets

    public int keep(int k) {
        if (k < 0 || k >= IMAGES) {
            return BAD;
        }
        int was = kept[k] ? 1 : 0;
        images[k].copyFrom(now);
        kept[k] = true;
        return was;
    }

    public int back(int k) {
        if (k < 0 || k >= IMAGES) {
            return BAD;
        }
        if (!kept[k]) {
            return STATE;
        }
        now.copyFrom(images[k]);
        return now.floor.danced;
    }

    public int sheet(int k, int lane, int n) {
        if (isNoSheet(k) || isNoLane(lane) || n > MOST_CELLS) {
            return BAD;
        }
        if (n < 0) {
            return FAULTY - SIZE;
        }
        sheets[k].renew(lane, n);
        return 1;
    }

    public int lay(int k, int i, int v) {
        if (isNoSheet(k)) {
            return BAD;
        }
        int found = sheets[k].faultAt(sheets[k].lane, i);
        if (found != 0) {
            return FAULTY - found;
        }
        sheets[k].put(i, v);
        return 1;
    }

    public int read(int k, int lane, int f, int n) {
        if (isNoSheet(k) || isNoLane(lane) || n < 0 || n > MOST_READ) {
            return BAD;
        }
        // danced aside at first: a refusal by dance() takes all of them back
        Floor aside = walk.floor;
        aside.copyFrom(now.floor);
        int found = 0;
        int danced = 0;
        while (danced < n) {
            found = sheets[k].faultAt(lane, (long) f + danced);
            if (found != 0) {
                break;
            }
            int cell = sheets[k].cells[f + danced];
            if (!isFigure(cell) || aside.men == 0) {
                return REFUSED - danced;
            }
            aside.step(cell);
            danced++;
        }
        now.floor.copyFrom(aside);
        latestTear = found;
        return danced;
    }

    public int torn() {
        return latestTear;
    }

    public int count(int what) {
        switch (what) {
            case 0:
                return now.seen;
            case 1:
                return (kept[0] ? 1 : 0) + (kept[1] ? 1 : 0);
            case 2:
                return tape.length;
            case 3:
                return sheets[0].lane == NOTHING ? NONE : sheets[0].length;
            case 4:
                return sum(now.floor.heels, now.floor.men);
            case 5:
                return sum(now.floor.heat, now.floor.men);
            default:
                return BAD;
        }
    }

    // ---- what the calls share

    /** There are as many WOMEN as MEN, so this serves both. */
    private boolean isNobody(int who) {
        return who < 0 || who >= now.floor.men;
    }

    private static boolean isFigure(int f) {
        return f >= 0 && f < FIGURES;
    }

    private static boolean isNoSheet(int k) {
        return k < 0 || k >= SHEETS;
    }

    private static boolean isNoLane(int lane) {
        return lane < 0 || lane >= LANES;
    }

    private void walkNow() {
        walk.floor.copyFrom(now.floor);
        walk.follow(now);
    }

    /** The caller has put into the walk's floor what is supposed of the MEN. */
    private boolean walkIsAsSeen() {
        walk.follow(now);
        for (int i = 0; i < now.seen; i++) {
            if (walk.partnerBehind(now.seenWoman[i], now.seenBehind[i]) != now.seenMan[i]) {
                return false;
            }
        }
        return true;
    }

    private int meetingsBehind(int k) {
        int meetings = 0;
        for (int w = 0; w < now.floor.men; w++) {
            if (now.areKin(w, walk.partnerBehind(w, k))) {
                meetings++;
            }
        }
        return meetings;
    }

    private int allMeetings() {
        int meetings = 0;
        for (int k = 1; k <= walk.steps; k++) {
            meetings += meetingsBehind(k);
        }
        return meetings;
    }

    private int firstMeeting() {
        for (int k = 1; k <= walk.steps; k++) {
            if (meetingsBehind(k) > 0) {
                return k;
            }
        }
        return NONE;
    }

    /** Who is ROUND behind THE PROGRAM, each place of these bits danced twice at once. */
    private int roundRepeating(int repeated) {
        Floor floor = walk.floor;
        floor.copyFrom(now.floor);
        for (int i = 0; i < now.figures; i++) {
            floor.step(now.program[i]);
            if ((repeated >> i & 1) == 1) {
                floor.step(now.program[i]);
            }
        }
        return floor.roundBits();
    }

    /** Over all HEELS that may break: the weight of each, times how many of these WOMEN are ROUND. */
    private long weighed(int v, int women) {
        int men = now.floor.men;
        long weighed = 0;
        for (int broken = 0; broken < 1 << men; broken++) {
            int breaks = Integer.bitCount(broken);
            long weight = power(v, breaks) * power(ODDS - v, men - breaks);
            if (weight != 0) {
                weighed += weight * Integer.bitCount(roundWithBroken(broken) & women);
            }
        }
        return weighed;
    }

    private int roundWithBroken(int broken) {
        walk.floor.copyFrom(now.floor);
        for (int m = 0; m < now.floor.men; m++) {
            if ((broken >> m & 1) == 1) {
                walk.floor.heels[m] = 0;
            }
        }
        walk.follow(now);
        return walk.floor.roundBits();
    }

    private static int placeIn(int[] row, int length, int what) {
        int i = what - ROW_FROM;
        return i < 0 || i >= length || i >= row.length ? NONE : row[i];
    }

    private static long power(int base, int times) {
        long power = 1;
        for (int i = 0; i < times; i++) {
            power *= base;
        }
        return power;
    }

    private static long fraction(long upper, long lower, int what) {
        long common = greatestCommon(upper, lower);
        if (common == 0) {
            return BAD;
        }
        return what == 0 ? upper / common : lower / common;
    }

    private static long greatestCommon(long one, long other) {
        long a = one;
        long b = other;
        // Euclid's steps on longs stay under a hundred
        for (int i = 0; i < 100 && b != 0; i++) {
            long rest = a % b;
            a = b;
            b = rest;
        }
        return a;
    }

    private static int sum(int[] row, int length) {
        int sum = 0;
        for (int i = 0; i < length && i < row.length; i++) {
            sum += row[i];
        }
        return sum;
    }

    /** The MEN, who is with whom, and how many FIGURES they have danced. */
    private static final class Floor {
        final int[] kind = new int[MOST_MEN];
        final int[] height = new int[MOST_MEN];
        final int[] heels = new int[MOST_MEN];
        final int[] heat = new int[MOST_MEN];
        final int[] partner = new int[MOST_MEN];
        final int[] statures = new int[MOST_MEN];
        final int[] byRank = new int[MOST_MEN];
        final int[] rankOf = new int[MOST_MEN];
        int men;
        int danced;

        /** RANKS aren't copied: they are found anew by lineUp(). */
        void copyFrom(Floor other) {
            men = other.men;
            danced = other.danced;
            for (int m = 0; m < men; m++) {
                kind[m] = other.kind[m];
                height[m] = other.height[m];
                heels[m] = other.heels[m];
                heat[m] = other.heat[m];
                partner[m] = other.partner[m];
            }
        }

        void addMan(int ofKind, int tall, int heeled) {
            if (men < MOST_MEN) {
                kind[men] = ofKind;
                height[men] = tall;
                heels[men] = heeled;
                heat[men] = 0;
                partner[men] = men;
                men++;
            }
        }

        int[] rowOf(int what) {
            switch (what) {
                case 0:
                    return kind;
                case 1:
                    return height;
                case 2:
                    return heels;
                default:
                    return heat;
            }
        }

        int stature(int m) {
            int worn = height[m] + heels[m];
            if (kind[m] == BENT) {
                return worn - 2;
            }
            return kind[m] == HEARTH ? worn + 3 : worn;
        }

        void lineUp() {
            for (int m = 0; m < men; m++) {
                statures[m] = stature(m);
                int r = m;
                while (r > 0 && standsAhead(m, byRank[r - 1])) {
                    byRank[r] = byRank[r - 1];
                    r--;
                }
                byRank[r] = m;
            }
            for (int r = 0; r < men; r++) {
                rankOf[byRank[r]] = r;
            }
        }

        /** The lesser of two alike has been put in first, so he stays ahead. */
        private boolean standsAhead(int m, int other) {
            int taller = statures[m] - statures[other];
            return taller < 0 || taller == 0 && heat[m] > heat[other];
        }

        void step(int f) {
            lineUp();
            change(f);
            wear();
            warm();
            danced = Math.min(danced + 1, MOST_DANCED);
        }

        /** Goes by the RANKS of the latest lineUp(). */
        void change(int f) {
            for (int w = 0; w < men; w++) {
                partner[w] = byRank[nextRank(f, rankOf[partner[w]])];
            }
        }

        private int nextRank(int f, int r) {
            if (men < 1) {
                return 0;
            }
            switch (f) {
                case UP:
                    return (r + 1) % men;
                case DOWN:
                    return (r + men - 1) % men;
                case WALTZ:
                    return (r + 2) % men;
                default:
                    return men - 1 - r;
            }
        }

        private void wear() {
            boolean bootsWear = danced % 2 == 1;
            for (int m = 0; m < men; m++) {
                boolean wears = kind[m] == BOOTED ? bootsWear : kind[m] != HEARTH;
                if (wears && heels[m] > 0) {
                    heels[m]--;
                }
            }
        }

        private void warm() {
            for (int w = 0; w < men; w++) {
                if (partner[w] == w) {
                    heat[w] = Math.min(heat[w] + 1, GREATEST);
                }
            }
        }

        int roundBits() {
            int bits = 0;
            for (int w = 0; w < men; w++) {
                if (partner[w] == w) {
                    bits |= 1 << w;
                }
            }
            return bits;
        }

        int womanWith(int m) {
            for (int w = 0; w < men; w++) {
                if (partner[w] == m) {
                    return w;
                }
            }
            return NONE;
        }

        boolean isPairedAs(Floor other) {
            for (int w = 0; w < men; w++) {
                if (partner[w] != other.partner[w]) {
                    return false;
                }
            }
            return true;
        }
    }

    /** All that a text tells and an IMAGE keeps. */
    private static final class Evening {
        final Floor floor = new Floor();
        final int[] kin = new int[MOST_MEN];
        final int[] program = new int[MOST_FIGURES];
        final int[] seenWoman = new int[MOST_SEEN];
        final int[] seenBehind = new int[MOST_SEEN];
        final int[] seenMan = new int[MOST_SEEN];
        int figures;
        int seen;

        void copyFrom(Evening other) {
            floor.copyFrom(other.floor);
            System.arraycopy(other.kin, 0, kin, 0, MOST_MEN);
            System.arraycopy(other.program, 0, program, 0, MOST_FIGURES);
            System.arraycopy(other.seenWoman, 0, seenWoman, 0, MOST_SEEN);
            System.arraycopy(other.seenBehind, 0, seenBehind, 0, MOST_SEEN);
            System.arraycopy(other.seenMan, 0, seenMan, 0, MOST_SEEN);
            figures = other.figures;
            seen = other.seen;
        }

        void empty() {
            floor.men = 0;
            floor.danced = 0;
            Arrays.fill(kin, 0);
            figures = 0;
            seen = 0;
        }

        boolean areKin(int w, int m) {
            return (kin[w] >> m & 1) == 1;
        }

        int allKin() {
            int all = 0;
            for (int w = 0; w < MOST_MEN; w++) {
                all += Integer.bitCount(kin[w]);
            }
            return all;
        }

        /** A text may name cousins ahead of the lines that tell of them. */
        boolean hasStrangers() {
            for (int w = 0; w < MOST_MEN; w++) {
                int known = w < floor.men ? (1 << floor.men) - 1 : 0;
                if ((kin[w] & ~known) != 0) {
                    return true;
                }
            }
            return false;
        }

        boolean cousinsMeet(Floor on) {
            for (int w = 0; w < on.men; w++) {
                if (areKin(w, on.partner[w])) {
                    return true;
                }
            }
            return false;
        }

        void addFigure(int f) {
            if (figures < MOST_FIGURES) {
                program[figures] = f;
                figures++;
            }
        }

        void addSeen(int w, int k, int m) {
            if (seen < MOST_SEEN) {
                seenWoman[seen] = w;
                seenBehind[seen] = k;
                seenMan[seen] = m;
                seen++;
            }
        }
    }

    /** A program danced aside, with whom each WOMAN was behind each of its FIGURES. */
    private static final class Walk {
        final Floor floor = new Floor();
        final int[] partners = new int[(MOST_FIGURES + 1) * MOST_MEN];
        int steps;

        /** Goes on from the floor as it has been put here. */
        void follow(Evening evening) {
            steps = 0;
            note();
            while (steps < evening.figures && steps < MOST_FIGURES) {
                floor.step(evening.program[steps]);
                steps++;
                note();
            }
        }

        private void note() {
            System.arraycopy(floor.partner, 0, partners, steps * MOST_MEN, MOST_MEN);
        }

        int partnerBehind(int w, int k) {
            return partners[Math.min(k, steps) * MOST_MEN + w];
        }
    }

    /** Goes through rows of FIGURES, the first by numbers first, and drops each at a MEETING. */
    private static final class Search {
        final Floor[] behind = new Floor[LONGEST_ORDER + 1];
        final int[] row = new int[LONGEST_ORDER];
        final int[] firstRow = new int[LONGEST_ORDER];
        final int[] bestRow = new int[LONGEST_ORDER];
        boolean byPlaces;
        int length;
        int found;
        int most;

        Search() {
            for (int i = 0; i <= LONGEST_ORDER; i++) {
                behind[i] = new Floor();
            }
        }

        /** Over all rows of n FIGURES, or over the orders of THE PROGRAM's first n places. */
        void over(Evening of, int n, boolean places) {
            byPlaces = places;
            length = Math.min(n, LONGEST_ORDER);
            found = 0;
            most = NONE;
            behind[0].copyFrom(of.floor);
            descend(of, 0, 0);
        }

        private void descend(Evening of, int depth, int used) {
            if (depth >= length) {
                take();
                return;
            }
            int choices = byPlaces ? length : FIGURES;
            Floor next = behind[depth + 1];
            for (int c = 0; c < choices; c++) {
                if (byPlaces && (used >> c & 1) == 1) {
                    continue;
                }
                next.copyFrom(behind[depth]);
                next.step(byPlaces ? of.program[c] : c);
                if (!of.cousinsMeet(next)) {
                    row[depth] = c;
                    descend(of, depth + 1, used | 1 << c);
                }
            }
        }

        private void take() {
            int round = Integer.bitCount(behind[length].roundBits());
            if (found == 0) {
                System.arraycopy(row, 0, firstRow, 0, length);
            }
            if (round > most) {
                most = round;
                System.arraycopy(row, 0, bestRow, 0, length);
            }
            found++;
        }
    }

    /** A row of CELLS of one lane, or nothing. */
    private static final class Sheet {
        final int[] cells = new int[MOST_CELLS];
        int lane = NOTHING;
        int length;

        void renew(int ofLane, int n) {
            lane = ofLane;
            length = Math.max(0, Math.min(n, MOST_CELLS));
            Arrays.fill(cells, 0);
        }

        /** What the machine would find at this CELL; a long, since f and i may pass an int. */
        int faultAt(int takenAs, long i) {
            if (lane == NOTHING) {
                return NULL;
            }
            if (lane != takenAs) {
                return CAST;
            }
            return i < 0 || i >= length ? INDEX : 0;
        }

        void put(int i, int v) {
            if (lane == BYTES) {
                cells[i] = (byte) v;
            } else if (lane == SHORTS) {
                cells[i] = (short) v;
            } else {
                cells[i] = v;
            }
        }
    }

    /** The bytes fed, and their reading into a draft: a TOKEN when the one before has been taken. */
    private static final class Tape {
        private static final int END = 0;
        private static final int NAME = 1;
        private static final int NUMBER = 2;
        private static final int SEMICOLON = 3;
        private static final int NO_TOKEN = 4;

        private static final int COUSINS_LINE = 4;
        private static final int LINE_WORDS = 6;
        private static final int COUSIN_BOUND = 4;

        final int[] bytes = new int[MOST_BYTES];
        final Evening draft = new Evening();
        int length;
        int faultFound;
        int place;
        private int next;
        private int token;
        private int start;
        private int value;
        private boolean hasProgram;

        /** How many lines; the fault found, or 0, tells whether the draft is to be taken. */
        int wholeText() {
            draft.empty();
            faultFound = 0;
            place = 0;
            next = 0;
            hasProgram = false;
            int lines = 0;
            while (lines <= MOST_BYTES && advance() && token != END) {
                if (!oneLine()) {
                    return lines;
                }
                lines++;
            }
            if (faultFound == 0 && draft.hasStrangers()) {
                refuse(6, length);
            }
            return lines;
        }

        private boolean refuse(int what, int where) {
            faultFound = what;
            place = where;
            return false;
        }

        /** False where there is no TOKEN; the end is one. */
        private boolean advance() {
            while (next < length && bytes[next] == ' ') {
                next++;
            }
            start = next;
            token = tokenAt(start);
            if (token == NO_TOKEN) {
                return refuse(1, start);
            }
            if (token != END) {
                next++;
            }
            boolean grows = token == NAME || token == NUMBER;
            while (grows && next < length && tokenAt(next) == token) {
                next++;
            }
            return token != NUMBER || next - start <= 2 || refuse(1, start);
        }

        /** What a TOKEN is that begins with the byte at this place. */
        private int tokenAt(int i) {
            if (i >= length) {
                return END;
            }
            int c = bytes[i];
            if (c >= 'a' && c <= 'z') {
                return NAME;
            }
            if (c >= '0' && c <= '9') {
                return NUMBER;
            }
            return c == ';' ? SEMICOLON : NO_TOKEN;
        }

        private boolean oneLine() {
            int word = token == NAME ? lineWord() : NONE;
            if (word == NONE) {
                return refuse(2, start);
            }
            if (word < KINDS) {
                return manLine(word);
            }
            return word == COUSINS_LINE ? cousinsLine() : programLine();
        }

        private boolean manLine(int kind) {
            if (draft.floor.men >= MOST_MEN) {
                return refuse(5, start);
            }
            if (!number(GREATEST)) {
                return false;
            }
            int tall = value;
            if (!number(GREATEST)) {
                return false;
            }
            draft.floor.addMan(kind, tall, value);
            return semicolon();
        }

        private boolean cousinsLine() {
            if (draft.allKin() >= MOST_COUSINS) {
                return refuse(5, start);
            }
            if (!number(COUSIN_BOUND)) {
                return false;
            }
            int w = value;
            if (!number(COUSIN_BOUND)) {
                return false;
            }
            if (draft.areKin(w, value)) {
                return refuse(4, start);
            }
            draft.kin[w] |= 1 << value;
            return semicolon();
        }

        private boolean programLine() {
            if (hasProgram) {
                return refuse(4, start);
            }
            hasProgram = true;
            for (int i = 0; i <= MOST_FIGURES; i++) {
                if (!advance()) {
                    return false;
                }
                if (token == SEMICOLON) {
                    return true;
                }
                // the document counts NAMES here, so a 9th is too many whether or not it is an F
                if (token == NAME && draft.figures >= MOST_FIGURES) {
                    return refuse(5, start);
                }
                int f = token == NAME ? figureWord() : NONE;
                if (f == NONE) {
                    return refuse(2, start);
                }
                draft.addFigure(f);
            }
            return false;
        }

        private boolean number(int bound) {
            if (!advance()) {
                return false;
            }
            if (token != NUMBER) {
                return refuse(2, start);
            }
            value = 0;
            for (int i = start; i < next; i++) {
                value = value * 10 + bytes[i] - '0';
            }
            return value <= bound || refuse(3, start);
        }

        private boolean semicolon() {
            if (!advance()) {
                return false;
            }
            return token == SEMICOLON || refuse(2, start);
        }

        private int lineWord() {
            for (int i = 0; i < LINE_WORDS; i++) {
                if (isWord(wordOfLine(i))) {
                    return i;
                }
            }
            return NONE;
        }

        private int figureWord() {
            for (int f = 0; f < FIGURES; f++) {
                if (isWord(wordOfFigure(f))) {
                    return f;
                }
            }
            return NONE;
        }

        /** Compared on THE TAPE itself, so that reading makes no objects. */
        private boolean isWord(String word) {
            if (word.length() != next - start) {
                return false;
            }
            for (int i = 0; i < word.length(); i++) {
                if (word.charAt(i) != bytes[start + i]) {
                    return false;
                }
            }
            return true;
        }

        private static String wordOfLine(int i) {
            switch (i) {
                case 0:
                    return "plain";
                case 1:
                    return "booted";
                case 2:
                    return "bent";
                case 3:
                    return "hearth";
                case 4:
                    return "cousins";
                default:
                    return "program";
            }
        }

        private static String wordOfFigure(int f) {
            switch (f) {
                case UP:
                    return "up";
                case DOWN:
                    return "down";
                case WALTZ:
                    return "waltz";
                default:
                    return "mirror";
            }
        }
    }
}
