import java.util.Arrays;

/**
 * Heaps of which each gives some at every moon, what they gave being a heap more.
 *
 * A stand (heaps that are as much together as all) is known by its number among all stands of
 * that sum, so that every question is one about small graphs of numbers.
 */
public final class TitheHeap {
    public static final int NONE = -1;

    private static final int NO_SUCH = -2;
    private static final int BAD_NUMBER = -3;
    private static final int TOO_MANY = -4;
    private static final int NOT_NOW = -5;
    private static final int MISSING = -6;
    private static final int NO_PLACE = -7;
    private static final int WHY_NOT = -10;
    private static final int BAD_TEXT = -30;

    private static final int MOST = 18;
    private static final int MOST_STANDS = 385;
    private static final int SEASONS = 10;
    private static final int LOTS = 10;
    private static final int TAPE = 900;
    private static final int TRAYS = 4;
    private static final int IMAGES = 2;
    private static final int MOST_COUNTED = 8;
    private static final int MOST_ROW = 9;
    private static final int MOST_CHANCE = 7;
    private static final long MOST_GOING = 1000000000000000L;

    private final byte[] tape = new byte[TAPE];
    private int taped = 0;
    private int faultKind = 0;
    private int faultPlace = NONE;
    private final Reader reader = new Reader();
    private final Atlas atlas = new Atlas();
    private final Mill mill = new Mill(atlas);
    private final Going going = new Going(atlas, mill);
    private final Search search = new Search(atlas, mill);
    private final Spread spread = new Spread(atlas, mill);
    private final Tray[] trays = new Tray[TRAYS];
    private final Moment[] images = new Moment[IMAGES];
    private final Moment now = new Moment();
    private final Moment draft = new Moment();
    private final Past past = new Past();
    private final int[] sizes = new int[MOST + 1];
    private final int[] outcomes = new int[SEASONS * (MOST + 1)];

    public TitheHeap() {
        for (int i = 0; i < TRAYS; i++) {
            trays[i] = new Tray();
        }
        for (int i = 0; i < IMAGES; i++) {
            images[i] = new Moment();
        }
        goOnFrom();
    }

    // ---- the barn

    public int feed(int a, int b, int c, int d, int e) {
        if (taped > TAPE - 20) {
            return NOT_NOW;
        }
        feedInt(a);
        feedInt(b);
        feedInt(c);
        feedInt(d);
        feedInt(e);
        return taped;
    }

    public int barn(int n) {
        if (n < 0 || n > taped) {
            return BAD_NUMBER;
        }
        taped = 0;
        reader.read(tape, n);
        faultKind = reader.faultKind;
        faultPlace = reader.faultPlace;
        if (faultKind != 0) {
            return BAD_TEXT - faultKind;
        }
        atlas.lay(reader.total);
        now.laws = reader.laws();
        now.sum = reader.total;
        now.stand = atlas.numberOf(reader.sizes);
        now.time = reader.season;
        now.moonCount = 0;
        goOnFrom();
        return now.laws.lines;
    }

    public int fault(int what) {
        if (what == 0) {
            return faultKind;
        }
        return what == 1 ? faultPlace : NONE;
    }

    public int heap(int place) {
        if (place < 0) {
            return BAD_NUMBER;
        }
        return place < atlas.heapsOf(now.stand) ? atlas.sizeOf(now.stand, place) : NONE;
    }

    public int gives(int place) {
        int heaps = atlas.heapsOf(now.stand);
        if (place < 0 || place >= heaps) {
            return NO_SUCH;
        }
        return mill.gift(atlas.sizeOf(now.stand, place), place, heaps);
    }

    public int by(int deed, int what) {
        if (what < 0 || what > 2) {
            return NO_SUCH;
        }
        int stand = mill.behind(now.stand, deed);
        if (stand < 0) {
            return NOT_NOW;
        }
        if (what == 0) {
            return stand;
        }
        return what == 1 ? atlas.heapsOf(stand) : atlas.sizeOf(stand, 0);
    }

    // ---- deeds

    public int moon(int deed) {
        draft.copy(now);
        return landed(moonDeed(draft, deed));
    }

    public int moons(int n) {
        if (n < 1 || n > 99) {
            return BAD_NUMBER;
        }
        draft.copy(now);
        for (int i = 0; i < n; i++) {
            moonDeed(draft, 0);
        }
        return landed(0);
    }

    public int split(int size, int less) {
        draft.copy(now);
        return landed(splitDeed(draft, size, less));
    }

    public int join(int size, int other) {
        draft.copy(now);
        return landed(joinDeed(draft, size, other));
    }

    public int season(int n) {
        int before = now.time;
        draft.copy(now);
        int answer = landed(seasonDeed(draft, n));
        return answer < 0 ? answer : before;
    }

    public int undo(int n) {
        if (n < 1 || n > Past.MOST_CALLS || n > past.calls) {
            return BAD_NUMBER;
        }
        past.goBack(now, n);
        mill.turnTo(now.time);
        return past.calls;
    }

    public int judge(int tray, int what) {
        if (noSuchTray(tray) || what < 0 || what > 3) {
            return NO_SUCH;
        }
        if (trays[tray].missing) {
            return MISSING;
        }
        draft.copy(now);
        int done = doDeeds(trays[tray]);
        int why = done < trays[tray].size ? doDeed(draft, trays[tray].numberAt(done)) : 0;
        mill.turnTo(now.time);
        switch (what) {
            case 0:
                return why == 0 ? NONE : done;
            case 1:
                return why;
            case 2:
                return atlas.heapsOf(draft.stand);
            default:
                return draft.stand;
        }
    }

    public int perform(int tray) {
        if (noSuchTray(tray)) {
            return NO_SUCH;
        }
        if (trays[tray].missing) {
            return MISSING;
        }
        draft.copy(now);
        int done = doDeeds(trays[tray]);
        if (done > 0) {
            land();
        }
        return done;
    }

    public int year(int seed, int times) {
        if (times < 1 || times > 40) {
            return BAD_NUMBER;
        }
        draft.copy(now);
        Draws draws = new Draws(seed);
        int done = 0;
        for (int i = 0; i < times; i++) {
            if (doDeed(draft, draws.nextDeed()) == 0) {
                done++;
            }
        }
        if (done > 0) {
            land();
        }
        return done;
    }

    // ---- going

    public int at(long n) {
        if (n < 0 || n > MOST_GOING) {
            return BAD_NUMBER;
        }
        going.walk(now.stand);
        return going.standAfter(n);
    }

    public int round(int what) {
        if (what < 0 || what > 1) {
            return NO_SUCH;
        }
        going.walk(now.stand);
        return what == 0 ? going.tail : going.period;
    }

    public int all(int what) {
        if (what < 0 || what > 5) {
            return NO_SUCH;
        }
        if (what == 0) {
            return atlas.stands;
        }
        going.survey();
        switch (what) {
            case 1:
                return going.edens;
            case 2:
                return going.again;
            case 3:
                return going.rounds;
            case 4:
                return going.longest;
            default:
                return going.sameRound(now.stand);
        }
    }

    public int ahead(int n) {
        if (n < 0 || n > 9) {
            return BAD_NUMBER;
        }
        return going.leadingTo(now.stand, n);
    }

    // ---- with some spared

    public int soonest(int tray) {
        int target = told(tray);
        return target < 0 ? target : search.reach(now.stand, target);
    }

    public int way(int tray, int i) {
        int target = told(tray);
        if (target < 0) {
            return target;
        }
        if (i < 0) {
            return BAD_NUMBER;
        }
        int moons = search.reach(now.stand, target);
        return i < moons ? search.deedOnWay(target, moons - 1 - i) : NONE;
    }

    public long rows(int k, int n) {
        if (k < 1 || k > MOST || n < 0 || n > MOST_ROW) {
            return BAD_NUMBER;
        }
        spread.begin(now.stand);
        for (int level = 0; level < n; level++) {
            spread.stepByDeeds(level, NONE);
        }
        return spread.withHeaps(n, k, k);
    }

    public int keeps(int k) {
        if (k < 1 || k > MOST) {
            return BAD_NUMBER;
        }
        return search.longestKept(now.stand, k);
    }

    public int stands() {
        search.reach(now.stand, NONE);
        return search.reached;
    }

    // ---- among all

    public int number(int tray) {
        return told(tray);
    }

    public int bounded(int k, int m) {
        if (k < 1 || k > MOST || m < 1 || m > MOST) {
            return BAD_NUMBER;
        }
        int found = 0;
        for (int s = 0; s < atlas.stands; s++) {
            if (atlas.heapsOf(s) <= k && atlas.sizeOf(s, 0) <= m) {
                found++;
            }
        }
        return found;
    }

    public int side() {
        Arrays.fill(sizes, 0);
        int heaps = atlas.heapsOf(now.stand);
        for (int i = 1; i <= atlas.sizeOf(now.stand, 0); i++) {
            int atLeast = 0;
            for (int place = 0; place < heaps; place++) {
                if (atlas.sizeOf(now.stand, place) >= i) {
                    atLeast++;
                }
            }
            sizes[atLeast]++;
        }
        return atlas.numberOf(sizes);
    }

    public int under(int tray) {
        int other = told(tray);
        if (other < 0) {
            return other;
        }
        return atlas.liesUnder(now.stand, other) ? 1 : 0;
    }

    public int below() {
        int found = 0;
        for (int s = 0; s < atlas.stands; s++) {
            if (atlas.liesUnder(s, now.stand)) {
                found++;
            }
        }
        return found;
    }

    // ---- counted

    public long counted(int tray) {
        int refusal = countsRefusal(tray, NONE, 0);
        if (refusal < 0) {
            return refusal;
        }
        spreadCounted(trays[tray]);
        return spread.withHeaps(trays[tray].size, 1, MOST);
    }

    public int countedBy(int tray, int i) {
        int refusal = countsRefusal(tray, NONE, i);
        if (refusal < 0) {
            return refusal;
        }
        if (i >= trays[tray].size) {
            return NONE;
        }
        spreadCounted(trays[tray]);
        spread.prune(trays[tray].size);
        return spread.firstRowDeed(now.stand, i);
    }

    public int spared(int tray, int i) {
        int refusal = countsRefusal(tray, NONE, i);
        if (refusal < 0) {
            return refusal;
        }
        if (i >= trays[tray].size) {
            return NO_PLACE;
        }
        spreadCounted(trays[tray]);
        spread.prune(trays[tray].size);
        return spread.deedBits(i);
    }

    public int seasons(int tray) {
        int refusal = countsRefusal(tray, 1, 0);
        return refusal < 0 ? refusal : calmSeasons(trays[tray]);
    }

    public int attempt(int tray) {
        int refusal = countsRefusal(tray, 1, 0);
        if (refusal < 0) {
            return refusal;
        }
        int calm = calmSeasons(trays[tray]);
        if (calm == 0) {
            return NONE;
        }
        int best = NONE;
        int least = SEASONS + 1;
        for (int deed = 0; deed <= MOST; deed++) {
            int greatest = mostAlike(calm, deed);
            if (greatest < least) {
                least = greatest;
                best = deed;
            }
        }
        return best;
    }

    // ---- by turns

    public int forces(int k) {
        if (k < 1 || k > MOST) {
            return BAD_NUMBER;
        }
        return search.forcedWithin(now.stand, k);
    }

    public int best(int k) {
        if (k < 1 || k > MOST) {
            return BAD_NUMBER;
        }
        int within = search.forcedWithin(now.stand, k);
        return within < 1 ? NONE : search.forcingDeed(now.stand, within);
    }

    public int takes(int what) {
        if (what < 0 || what > 1) {
            return NO_SUCH;
        }
        int heaps = atlas.heapsOf(now.stand);
        int odd = 0;
        for (int place = 0; place < heaps; place++) {
            odd ^= atlas.sizeOf(now.stand, place);
        }
        for (int place = 0; place < heaps; place++) {
            int size = atlas.sizeOf(now.stand, place);
            if ((size ^ odd) < size) {
                return what == 0 ? place : size - (size ^ odd);
            }
        }
        return NONE;
    }

    // ---- chances

    public int chance(int k, int n, int what) {
        if (what < 0 || what > 1) {
            return NO_SUCH;
        }
        if (k < 1 || k > MOST || n < 0 || n > MOST_CHANCE) {
            return BAD_NUMBER;
        }
        spreadByLots(n);
        return lowestTerm(spread.withHeaps(n, 1, k), n, what);
    }

    public int mean(int n, int what) {
        if (what < 0 || what > 1) {
            return NO_SUCH;
        }
        if (n < 0 || n > MOST_CHANCE) {
            return BAD_NUMBER;
        }
        spreadByLots(n);
        return lowestTerm(spread.greatestSum(n), n, what);
    }

    // ---- trays, images

    public int numbers(int tray, int sort, int n) {
        if (noSuchTray(tray) || sort < 0 || sort > 3) {
            return NO_SUCH;
        }
        if (n < 0 || n > Tray.PLACES) {
            return BAD_NUMBER;
        }
        trays[tray].renew(sort, n);
        return 0;
    }

    public long write(int tray, int i, long v) {
        if (noSuchTray(tray)) {
            return NO_SUCH;
        }
        if (trays[tray].missing) {
            return MISSING;
        }
        if (i < 0 || i >= trays[tray].size) {
            return NO_PLACE;
        }
        trays[tray].put(i, v);
        return trays[tray].numberAt(i);
    }

    public int lists(int tray, int number) {
        if (noSuchTray(tray)) {
            return NO_SUCH;
        }
        if (trays[tray].missing) {
            return MISSING;
        }
        if (number < 0 || number >= atlas.stands) {
            return BAD_NUMBER;
        }
        int listed = Math.min(atlas.heapsOf(number), trays[tray].size);
        for (int place = 0; place < listed; place++) {
            trays[tray].put(place, atlas.sizeOf(number, place));
        }
        return listed;
    }

    public int image(int i) {
        if (i < 0 || i >= IMAGES) {
            return NO_SUCH;
        }
        images[i].copy(now);
        images[i].made = true;
        return 0;
    }

    public int restore(int i) {
        if (i < 0 || i >= IMAGES) {
            return NO_SUCH;
        }
        if (!images[i].made) {
            return NOT_NOW;
        }
        now.copy(images[i]);
        goOnFrom();
        return 0;
    }

    public int count(int what) {
        switch (what) {
            case 0:
                return now.sum;
            case 1:
                return atlas.heapsOf(now.stand);
            case 2:
                return now.stand;
            case 3:
                return now.time;
            case 4:
                return now.moonCount;
            case 5:
                return past.calls;
            case 6:
                return taped;
            case 7:
                return now.laws.lines;
            default:
                return NONE;
        }
    }

    // ---- what the calls share

    private void feedInt(int four) {
        for (int shift = 24; shift >= 0 && taped < TAPE; shift -= 8) {
            tape[taped] = (byte) (four >>> shift);
            taped++;
        }
    }

    /** Makes the tables fit a moment that came from elsewhere; what was before can't be undone. */
    private void goOnFrom() {
        atlas.lay(now.sum);
        mill.begin(now.laws, now.sum, now.time);
        past.calls = 0;
    }

    private int landed(int why) {
        if (why != 0) {
            return WHY_NOT - why;
        }
        land();
        return atlas.heapsOf(now.stand);
    }

    private void land() {
        past.keep(now);
        now.copy(draft);
        mill.turnTo(now.time);
    }

    private int doDeeds(Tray deeds) {
        for (int i = 0; i < deeds.size; i++) {
            if (doDeed(draft, deeds.numberAt(i)) != 0) {
                return i;
            }
        }
        return deeds.size;
    }

    /** Does a deed to a moment, or tells why not (1, 2) and leaves it. */
    private int doDeed(Moment moment, long deed) {
        if (deed < 0 || deed > 4999) {
            return 1;
        }
        int d = (int) deed;
        if (d <= MOST) {
            return moonDeed(moment, d);
        }
        if (d >= 3000) {
            return joinDeed(moment, (d - 3000) / 100, d % 100);
        }
        if (d >= 1000) {
            return splitDeed(moment, (d - 1000) / 100, d % 100);
        }
        return seasonDeed(moment, d - 20);
    }

    private int moonDeed(Moment moment, int deed) {
        if (deed < 0 || deed > MOST) {
            return 1;
        }
        mill.turnTo(moment.time);
        int stand = mill.behind(moment.stand, deed);
        if (stand < 0) {
            return 2;
        }
        moment.stand = stand;
        moment.moonCount++;
        return 0;
    }

    private int splitDeed(Moment moment, int size, int less) {
        if (size < 1 || size > MOST || less < 1 || less >= size) {
            return 1;
        }
        atlas.tally(moment.stand, sizes);
        if (sizes[size] < 1) {
            return 2;
        }
        sizes[size]--;
        sizes[less]++;
        sizes[size - less]++;
        moment.stand = atlas.numberOf(sizes);
        return 0;
    }

    private int joinDeed(Moment moment, int size, int other) {
        if (size < 1 || size > MOST || other < 1 || other > MOST) {
            return 1;
        }
        atlas.tally(moment.stand, sizes);
        sizes[size]--;
        sizes[other]--;
        if (sizes[size] < 0 || sizes[other] < 0 || size + other > MOST) {
            return 2;
        }
        sizes[size + other]++;
        moment.stand = atlas.numberOf(sizes);
        return 0;
    }

    private int seasonDeed(Moment moment, int season) {
        if (season < 0 || season >= SEASONS) {
            return 1;
        }
        moment.time = season;
        return 0;
    }

    private boolean noSuchTray(int tray) {
        return tray < 0 || tray >= TRAYS;
    }

    /** The number of the stand told in a tray, or a refusal. */
    private int told(int tray) {
        if (noSuchTray(tray)) {
            return NO_SUCH;
        }
        Tray told = trays[tray];
        if (told.missing) {
            return MISSING;
        }
        if (told.size < 1 || told.size > MOST) {
            return TOO_MANY;
        }
        if (!told.allWithin(1, MOST)) {
            return BAD_NUMBER;
        }
        int together = 0;
        Arrays.fill(sizes, 0);
        for (int j = 0; j < told.size; j++) {
            int size = (int) told.numberAt(j);
            sizes[size]++;
            together += size;
        }
        return together == now.sum ? atlas.numberOf(sizes) : NOT_NOW;
    }

    /** Why a tray can't tell counts of heaps (least: NONE where a moon may stay uncounted). */
    private int countsRefusal(int tray, int least, int i) {
        if (noSuchTray(tray)) {
            return NO_SUCH;
        }
        Tray counts = trays[tray];
        if (counts.missing) {
            return MISSING;
        }
        if (counts.size < 1 || counts.size > MOST_COUNTED) {
            return TOO_MANY;
        }
        if (i < 0 || !counts.allWithin(least, MOST) || counts.has(0)) {
            return BAD_NUMBER;
        }
        return 0;
    }

    private void spreadCounted(Tray counts) {
        spread.begin(now.stand);
        for (int level = 0; level < counts.size; level++) {
            spread.stepByDeeds(level, (int) counts.numberAt(level));
        }
    }

    private void spreadByLots(int n) {
        spread.begin(now.stand);
        for (int level = 0; level < n; level++) {
            spread.stepByLots(level);
        }
    }

    /** Seasons by which the counts are so, as bits; outcomes are those of one moon behind them. */
    private int calmSeasons(Tray counts) {
        int calm = 0;
        for (int season = 0; season < SEASONS; season++) {
            mill.turnTo(season);
            int stand = standBehind(counts);
            if (stand >= 0) {
                calm |= 1 << season;
                noteOutcomes(season, stand);
            }
        }
        mill.turnTo(now.time);
        return calm;
    }

    private int standBehind(Tray counts) {
        int stand = now.stand;
        for (int i = 0; i < counts.size; i++) {
            stand = mill.behind(stand, 0);
            if (atlas.heapsOf(stand) != counts.numberAt(i)) {
                return NONE;
            }
        }
        return stand;
    }

    private void noteOutcomes(int season, int stand) {
        for (int deed = 0; deed <= MOST; deed++) {
            int then = mill.behind(stand, deed);
            outcomes[season * (MOST + 1) + deed] = then < 0 ? 0 : atlas.heapsOf(then);
        }
    }

    /** How many of these seasons, at most, have as many heaps behind a deed. */
    private int mostAlike(int calm, int deed) {
        Arrays.fill(sizes, 0);
        int most = 0;
        for (int season = 0; season < SEASONS; season++) {
            if ((calm >> season & 1) != 0) {
                int heaps = outcomes[season * (MOST + 1) + deed];
                sizes[heaps]++;
                most = Math.max(most, sizes[heaps]);
            }
        }
        return most;
    }

    /** A term of so many of all draws of n lots, as a fraction in lowest terms. */
    private static int lowestTerm(long above, int n, int what) {
        long below = 1;
        for (int i = 0; i < n; i++) {
            below *= LOTS;
        }
        long divisor = below;
        long rest = above;
        for (int i = 0; i < 100 && rest != 0; i++) {
            long next = divisor % rest;
            divisor = rest;
            rest = next;
        }
        if (divisor < 1) {
            return 0;
        }
        return (int) ((what == 0 ? above : below) / divisor);
    }

    /** What a text tells beside the heaps: the two laws as postfix code, no code for no law. */
    private static final class Laws {
        static final int[] NO_LAW = {};

        final int[] givesCode;
        final int[] mayCode;
        final int lines;

        Laws(int[] givesCode, int[] mayCode, int lines) {
            this.givesCode = givesCode;
            this.mayCode = mayCode;
            this.lines = lines;
        }
    }

    /** All that an image keeps; a new one is the barn without a text. */
    private static final class Moment {
        Laws laws = new Laws(Laws.NO_LAW, Laws.NO_LAW, 0);
        int sum = 1;
        int stand = 0;
        int time = 0;
        int moonCount = 0;
        boolean made = false;

        void copy(Moment other) {
            laws = other.laws;
            sum = other.sum;
            stand = other.stand;
            time = other.time;
            moonCount = other.moonCount;
        }
    }

    /** The moments ahead of the latest calls; their sum and laws are those of now. */
    private static final class Past {
        static final int MOST_CALLS = 10;

        private final int[] kept = new int[MOST_CALLS * 3];
        int calls = 0;

        void keep(Moment moment) {
            if (calls == MOST_CALLS) {
                System.arraycopy(kept, 3, kept, 0, kept.length - 3);
                calls--;
            }
            kept[calls * 3] = moment.stand;
            kept[calls * 3 + 1] = moment.time;
            kept[calls * 3 + 2] = moment.moonCount;
            calls++;
        }

        void goBack(Moment moment, int n) {
            if (n < 1 || n > calls) {
                return;
            }
            calls -= n;
            moment.stand = kept[calls * 3];
            moment.time = kept[calls * 3 + 1];
            moment.moonCount = kept[calls * 3 + 2];
        }
    }

    /** Deeds by draws from a seed. */
    private static final class Draws {
        private int x;

        Draws(int seed) {
            x = seed;
        }

        private int draw(int modulo) {
            x = 1103515245 * x + 12345;
            return (x >>> 16) % modulo;
        }

        int nextDeed() {
            int kind = draw(6);
            if (kind == 3) {
                return draw(8);
            }
            if (kind == 4) {
                return 20 + draw(10);
            }
            if (kind == 5) {
                int size = draw(6);
                return 3000 + 100 * size + draw(6);
            }
            return 0;
        }
    }

    /** Numbers of one sort, told by a caller. */
    private static final class Tray {
        static final int PLACES = 40;

        private final long[] row = new long[PLACES];
        private int sort = 0;
        int size = 0;
        boolean missing = true;

        void renew(int newSort, int newSize) {
            sort = newSort;
            size = newSize;
            missing = false;
            Arrays.fill(row, 0L);
        }

        void put(int i, long v) {
            if (i < 0 || i >= PLACES) {
                return;
            }
            switch (sort) {
                case 0:
                    row[i] = (byte) v;
                    break;
                case 1:
                    row[i] = (short) v;
                    break;
                case 2:
                    row[i] = (int) v;
                    break;
                default:
                    row[i] = v;
            }
        }

        long numberAt(int i) {
            return i < 0 || i >= PLACES ? 0 : row[i];
        }

        boolean allWithin(long low, long high) {
            for (int i = 0; i < size; i++) {
                if (row[i] < low || row[i] > high) {
                    return false;
                }
            }
            return true;
        }

        boolean has(long v) {
            for (int i = 0; i < size; i++) {
                if (row[i] == v) {
                    return true;
                }
            }
            return false;
        }
    }

    /** Reads a text token by token and turns laws into postfix code, till its first fault. */
    private static final class Reader {
        private static final String WORDS =
                "barn season heap gives may if then else end size place heaps all or and not ";
        private static final String SIGNS = ";:+-*()[]=<>";
        private static final int DEEPEST = 6;

        private static final int TEXT_END = 0;
        private static final int NUMBER = 1;
        private static final int NO_TOKEN = 2;
        private static final int STOPPED = 3;
        private static final int OTHER_WORD = 299;
        private static final int BARN = 300;
        private static final int SEASON = 301;
        private static final int HEAP = 302;
        private static final int GIVES = 303;
        private static final int MAY = 304;
        private static final int IF = 305;
        private static final int THEN = 306;
        private static final int ELSE = 307;
        private static final int END = 308;
        private static final int SIZE = 309;
        private static final int PLACE = 310;
        private static final int HEAPS = 311;
        private static final int ALL = 312;
        private static final int OR = 313;
        private static final int AND = 314;
        private static final int NOT = 315;

        private byte[] text = new byte[0];
        private int length = 0;
        private int spot = 0;
        private int begin = 0;
        private int kind = STOPPED;
        private int value = 0;
        private final int[] code = new int[TAPE];
        private int codeSize = 0;
        private int[] givesCode = Laws.NO_LAW;
        private int[] mayCode = Laws.NO_LAW;
        private int lines = 0;
        final int[] sizes = new int[MOST + 1];
        int total = 0;
        int season = 0;
        int faultKind = 0;
        int faultPlace = NONE;

        void read(byte[] bytes, int n) {
            text = bytes;
            length = Math.max(0, Math.min(n, bytes.length));
            spot = 0;
            givesCode = Laws.NO_LAW;
            mayCode = Laws.NO_LAW;
            lines = 0;
            Arrays.fill(sizes, 0);
            total = 0;
            faultKind = 0;
            faultPlace = NONE;
            advance();
            expect(BARN);
            expect(SEASON);
            season = takeNumber(0, SEASONS - 1);
            expect(';');
            lines = 1;
            for (int i = 0; i < length && kind != TEXT_END && kind != STOPPED; i++) {
                readLine();
                expect(';');
                lines++;
            }
            if (total == 0) {
                sizes[1] = 1;
                total = 1;
            }
        }

        Laws laws() {
            return new Laws(givesCode, mayCode, lines);
        }

        private void readLine() {
            if (kind == HEAP) {
                advance();
                int size = takeNumber(1, MOST - total);
                sizes[size]++;
                total += size;
            } else if (kind == GIVES) {
                beginLaw();
                sum(0);
                givesCode = Arrays.copyOf(code, codeSize);
            } else if (kind == MAY) {
                beginLaw();
                truth(0);
                mayCode = Arrays.copyOf(code, codeSize);
            } else {
                fail(2);
            }
        }

        private void beginLaw() {
            advance();
            expect(':');
            codeSize = 0;
        }

        private void sum(int depth) {
            term(depth);
            for (int i = 0; i < length && (kind == '+' || kind == '-'); i++) {
                int sign = kind;
                advance();
                term(depth);
                emit(sign == '+' ? Mill.PLUS : Mill.MINUS);
            }
        }

        private void term(int depth) {
            atom(depth);
            for (int i = 0; i < length && kind == '*'; i++) {
                advance();
                atom(depth);
                emit(Mill.TIMES);
            }
        }

        private void atom(int depth) {
            if (kind == NUMBER) {
                emit(takeNumber(0, 999));
            } else if (kind == '(') {
                if (enter(depth)) {
                    sum(depth + 1);
                    expect(')');
                }
            } else if (kind == IF) {
                if (enter(depth)) {
                    choice(depth + 1);
                }
            } else if (kind == SEASON) {
                name(Mill.SEASON);
            } else if (kind >= SIZE && kind <= ALL) {
                name(Mill.SIZE + kind - SIZE);
            } else {
                fail(2);
            }
        }

        private void name(int word) {
            emit(word);
            advance();
        }

        private void choice(int depth) {
            truth(depth);
            expect(THEN);
            sum(depth);
            expect(ELSE);
            sum(depth);
            expect(END);
            emit(Mill.CHOOSE);
        }

        private void truth(int depth) {
            both(depth);
            for (int i = 0; i < length && kind == OR; i++) {
                advance();
                both(depth);
                emit(Mill.OR);
            }
        }

        private void both(int depth) {
            unit(depth);
            for (int i = 0; i < length && kind == AND; i++) {
                advance();
                unit(depth);
                emit(Mill.AND);
            }
        }

        private void unit(int depth) {
            if (kind == NOT) {
                if (enter(depth)) {
                    unit(depth + 1);
                    emit(Mill.NOT);
                }
            } else if (kind == '[') {
                if (enter(depth)) {
                    truth(depth + 1);
                    expect(']');
                }
            } else {
                comparison(depth);
            }
        }

        private void comparison(int depth) {
            sum(depth);
            int sign = kind;
            if (sign != '=' && sign != '<' && sign != '>') {
                fail(2);
                return;
            }
            advance();
            sum(depth);
            emit(sign == '=' ? Mill.SAME : sign == '<' ? Mill.LESS : Mill.MORE);
        }

        /** Goes one deeper, or refuses to: this is what bounds the recursion. */
        private boolean enter(int depth) {
            if (depth >= DEEPEST) {
                fail(4);
                return false;
            }
            advance();
            return true;
        }

        private void emit(int word) {
            if (codeSize < code.length) {
                code[codeSize] = word;
                codeSize++;
            }
        }

        private void expect(int wanted) {
            if (kind == wanted) {
                advance();
            } else {
                fail(2);
            }
        }

        /** A number within bounds; 0 behind a fault. */
        private int takeNumber(int low, int high) {
            int taken = value;
            if (kind != NUMBER) {
                fail(2);
                return 0;
            }
            if (taken < low || taken > high) {
                fail(3);
                return 0;
            }
            advance();
            return taken;
        }

        /** Only the first fault counts; of one token no token is the least kind. */
        private void fail(int fault) {
            if (kind == STOPPED) {
                return;
            }
            faultKind = kind == NO_TOKEN ? 1 : fault;
            faultPlace = begin;
            kind = STOPPED;
        }

        private void advance() {
            if (faultKind != 0) {
                return;
            }
            while (spot < length && (text[spot] == 10 || text[spot] == 32)) {
                spot++;
            }
            begin = spot;
            if (spot >= length) {
                kind = TEXT_END;
            } else if (isWithin(spot, 'a', 'z')) {
                kind = readWord();
            } else if (isWithin(spot, '0', '9')) {
                kind = readNumber();
            } else {
                char sign = (char) (text[spot] & 255);
                spot++;
                kind = SIGNS.indexOf(sign) >= 0 ? sign : NO_TOKEN;
            }
        }

        private boolean isWithin(int i, int low, int high) {
            return i < length && text[i] >= low && text[i] <= high;
        }

        private int readNumber() {
            value = 0;
            while (spot < length && isWithin(spot, '0', '9')) {
                if (spot - begin < 3) {
                    value = value * 10 + text[spot] - '0';
                }
                spot++;
            }
            return spot - begin > 3 ? NO_TOKEN : NUMBER;
        }

        private int readWord() {
            while (spot < length && isWithin(spot, 'a', 'z')) {
                spot++;
            }
            int word = BARN;
            int from = 0;
            boolean same = true;
            for (int i = 0; i < WORDS.length(); i++) {
                char letter = WORDS.charAt(i);
                int j = begin + i - from;
                if (letter != ' ') {
                    same = same && j < spot && text[j] == letter;
                } else if (same && j == spot) {
                    return word;
                } else {
                    word++;
                    from = i + 1;
                    same = true;
                }
            }
            return OTHER_WORD;
        }
    }

    /** All stands of one sum, the one with the greatest heaps first. */
    private static final class Atlas {
        /** Partitions of n with no part above m, at n * 19 + m. */
        private final int[] ways = new int[(MOST + 1) * (MOST + 1)];
        private final byte[] parts = new byte[MOST_STANDS * MOST];
        private final byte[] heaps = new byte[MOST_STANDS];
        private final int[] row = new int[MOST + 1];
        private int sum = 0;
        int stands = 0;

        Atlas() {
            for (int m = 0; m <= MOST; m++) {
                ways[m] = 1;
            }
            for (int n = 1; n <= MOST; n++) {
                for (int m = 1; m <= MOST; m++) {
                    int lesser = waysOf(n, m - 1);
                    ways[n * (MOST + 1) + m] = n < m ? lesser : lesser + waysOf(n - m, m);
                }
            }
        }

        private int waysOf(int n, int m) {
            return ways[n * (MOST + 1) + m];
        }

        void lay(int newSum) {
            if (newSum == sum || newSum < 1 || newSum > MOST) {
                return;
            }
            sum = newSum;
            stands = waysOf(sum, sum);
            row[0] = sum;
            int length = 1;
            for (int s = 0; s < stands; s++) {
                for (int i = 0; i < length; i++) {
                    parts[s * MOST + i] = (byte) row[i];
                }
                heaps[s] = (byte) length;
                length = nextRow(length);
            }
        }

        /** Turns the row into the next stand's: the last heap above 1 is less, what's behind is packed. */
        private int nextRow(int length) {
            int i = length - 1;
            int rest = 1;
            while (i > 0 && row[i] == 1) {
                i--;
                rest++;
            }
            row[i]--;
            int most = row[i];
            for (i = i + 1; i < MOST && rest > 0 && most > 0; i++) {
                row[i] = Math.min(most, rest);
                rest -= row[i];
            }
            return i;
        }

        int heapsOf(int stand) {
            return stand < 0 || stand >= stands ? 0 : heaps[stand];
        }

        int sizeOf(int stand, int place) {
            return place < 0 || place >= heapsOf(stand) ? 0 : parts[stand * MOST + place];
        }

        /** The first place of a size, or NONE. */
        int placeOf(int stand, int size) {
            int length = heapsOf(stand);
            for (int place = 0; place < length; place++) {
                if (parts[stand * MOST + place] == size) {
                    return place;
                }
            }
            return NONE;
        }

        /** Sets how many heaps of each size a stand has. */
        void tally(int stand, int[] tallied) {
            Arrays.fill(tallied, 0);
            int length = heapsOf(stand);
            for (int place = 0; place < length; place++) {
                tallied[parts[stand * MOST + place]]++;
            }
        }

        /** The number of the stand that has so many heaps of each size. */
        int numberOf(int[] tallied) {
            int number = 0;
            int rest = sum;
            int above = MOST;
            for (int size = MOST; size > 0 && rest > 0; size--) {
                if (tallied[size] > 0) {
                    number += waysOf(rest, above) - waysOf(rest, size);
                    rest -= size * tallied[size];
                    above = size;
                }
            }
            return number;
        }

        boolean liesUnder(int stand, int other) {
            int lead = 0;
            for (int place = 0; place < MOST; place++) {
                lead += sizeOf(other, place) - sizeOf(stand, place);
                if (lead < 0) {
                    return false;
                }
            }
            return true;
        }
    }

    /**
     * What a moon does to a stand. Answers are kept with the epoch in which they were found, so
     * that other laws or another season need no clearing.
     */
    private static final class Mill {
        static final int SIZE = 1000;
        static final int PLACE = 1001;
        static final int HEAPS = 1002;
        static final int ALL = 1003;
        static final int SEASON = 1004;
        static final int PLUS = 1010;
        static final int MINUS = 1011;
        static final int TIMES = 1012;
        static final int SAME = 1013;
        static final int LESS = 1014;
        static final int MORE = 1015;
        static final int AND = 1016;
        static final int OR = 1017;
        static final int NOT = 1018;
        static final int CHOOSE = 1019;

        private static final long LIMIT = 1000000L;

        private final Atlas atlas;
        private Laws laws = new Laws(Laws.NO_LAW, Laws.NO_LAW, 0);
        private int epoch = 0;
        private final int[] byDeed = new int[MOST_STANDS * (MOST + 1)];
        private final int[] byLot = new int[MOST_STANDS * LOTS];
        private final int[] gifts = new int[(MOST + 1) * MOST * (MOST + 1)];
        private final int[] known = new int[5];
        private final int[] stack = new int[64];
        private final int[] tallied = new int[MOST + 1];

        Mill(Atlas atlas) {
            this.atlas = atlas;
        }

        void begin(Laws newLaws, int sum, int season) {
            laws = newLaws;
            known[ALL - SIZE] = sum;
            known[SEASON - SIZE] = season;
            epoch++;
        }

        void turnTo(int season) {
            if (known[SEASON - SIZE] != season) {
                known[SEASON - SIZE] = season;
                epoch++;
            }
        }

        /** The stand behind a moon, or NONE if the deed is none or there is no such heap. */
        int behind(int stand, int deed) {
            if (stand < 0 || stand >= atlas.stands || deed < 0 || deed > MOST) {
                return NONE;
            }
            int key = stand * (MOST + 1) + deed;
            if (byDeed[key] >> 10 != epoch) {
                int place = atlas.placeOf(stand, deed);
                int then = deed > 0 && place < 0 ? NONE : workOut(stand, place);
                byDeed[key] = epoch << 10 | then + 1;
            }
            return (byDeed[key] & 1023) - 1;
        }

        /** The stand behind a moon in which none is spared: there always is one. */
        int calmlyBehind(int stand) {
            return Math.max(0, behind(stand, 0));
        }

        /** The stand behind a moon in which the heap of a lot's place, if any, is spared. */
        int behindLot(int stand, int lot) {
            if (stand < 0 || stand >= atlas.stands || lot < 0 || lot >= LOTS) {
                return NONE;
            }
            if (lot >= atlas.heapsOf(stand)) {
                return behind(stand, 0);
            }
            int key = stand * LOTS + lot;
            if (byLot[key] >> 10 != epoch) {
                byLot[key] = epoch << 10 | workOut(stand, lot) + 1;
            }
            return (byLot[key] & 1023) - 1;
        }

        private int workOut(int stand, int sparedPlace) {
            Arrays.fill(tallied, 0);
            int heaps = atlas.heapsOf(stand);
            int given = 0;
            for (int place = 0; place < heaps; place++) {
                int size = atlas.sizeOf(stand, place);
                int gift = place == sparedPlace ? 0 : gift(size, place, heaps);
                given += gift;
                tallied[size - gift]++;
            }
            tallied[given]++;
            return atlas.numberOf(tallied);
        }

        /** What a heap gives if it isn't spared: 0 to its size. */
        int gift(int size, int place, int heaps) {
            int key = (size * MOST + place) * (MOST + 1) + heaps;
            if (key < 0 || key >= gifts.length) {
                return 0;
            }
            if (gifts[key] >> 5 != epoch) {
                known[0] = size;
                known[PLACE - SIZE] = place;
                known[HEAPS - SIZE] = heaps;
                int gift = 1;
                if (laws.mayCode.length > 0 && worth(laws.mayCode) == 0) {
                    gift = 0;
                } else if (laws.givesCode.length > 0) {
                    gift = Math.max(0, Math.min(size, worth(laws.givesCode)));
                }
                gifts[key] = epoch << 5 | gift;
            }
            return gifts[key] & 31;
        }

        /** The value of a law; both sums of an if are worked out, as neither can fail. */
        private int worth(int[] code) {
            int top = -1;
            for (int i = 0; i < code.length; i++) {
                int word = code[i];
                int operands = word <= SEASON ? 0 : word == NOT ? 1 : word == CHOOSE ? 3 : 2;
                if (top + 1 < operands || top + 1 - operands >= stack.length) {
                    return 0;
                }
                top += 1 - operands;
                int a = stack[top];
                int b = operands > 1 ? stack[top + 1] : 0;
                long result = 0;
                switch (word) {
                    case PLUS:
                        result = (long) a + b;
                        break;
                    case MINUS:
                        result = (long) a - b;
                        break;
                    case TIMES:
                        result = (long) a * b;
                        break;
                    case SAME:
                        result = a == b ? 1 : 0;
                        break;
                    case LESS:
                        result = a < b ? 1 : 0;
                        break;
                    case MORE:
                        result = a > b ? 1 : 0;
                        break;
                    case AND:
                        result = a & b;
                        break;
                    case OR:
                        result = a | b;
                        break;
                    case NOT:
                        result = 1 - a;
                        break;
                    case CHOOSE:
                        result = a != 0 ? b : stack[top + 2];
                        break;
                    default:
                        result = word < SIZE ? word : known[word - SIZE];
                }
                stack[top] = (int) (result > LIMIT ? LIMIT : result < -LIMIT ? -LIMIT : result);
            }
            return top < 0 ? 0 : stack[0];
        }
    }

    /** Moons in which none is spared, for ever. */
    private static final class Going {
        private final Atlas atlas;
        private final Mill mill;
        private final int[] path = new int[MOST_STANDS];
        private final int[] seen = new int[MOST_STANDS];
        private final int[] leading = new int[MOST_STANDS];
        private final int[] roundOf = new int[MOST_STANDS];
        int tail = 0;
        int period = 1;
        int edens = 0;
        int again = 0;
        int rounds = 0;
        int longest = 0;

        Going(Atlas atlas, Mill mill) {
            this.atlas = atlas;
            this.mill = mill;
        }

        /** Goes on from a stand till one comes that was seen: the path, its tail and its round. */
        void walk(int from) {
            Arrays.fill(seen, NONE);
            int stand = from;
            int moons = 0;
            while (moons < MOST_STANDS && seen[stand] < 0) {
                seen[stand] = moons;
                path[moons] = stand;
                moons++;
                stand = mill.calmlyBehind(stand);
            }
            tail = Math.max(0, seen[stand]);
            period = Math.max(1, moons - tail);
        }

        /** The stand behind n moons of the path that was walked. */
        int standAfter(long n) {
            long moons = n < tail ? n : tail + (n - tail) % period;
            return moons < 0 || moons >= MOST_STANDS ? NONE : path[(int) moons];
        }

        int leadingTo(int stand, int n) {
            int found = 0;
            for (int s = 0; s < atlas.stands; s++) {
                int then = s;
                for (int i = 0; i < n; i++) {
                    then = mill.calmlyBehind(then);
                }
                if (then == stand) {
                    found++;
                }
            }
            return found;
        }

        /**
         * Takes away stands to which none leads, again and again: those that stay come again.
         * Then each stand that was taken away is one moon ahead of one that is known already.
         */
        void survey() {
            int taken = takeAway();
            again = atlas.stands - taken;
            nameRounds();
            longest = 0;
            for (int i = taken - 1; i >= 0; i--) {
                int stand = path[i];
                int then = mill.calmlyBehind(stand);
                roundOf[stand] = roundOf[then];
                seen[stand] = seen[then] + 1;
                longest = Math.max(longest, seen[stand]);
            }
        }

        /** Puts the stands that never come again on the path, each ahead of where it leads. */
        private int takeAway() {
            Arrays.fill(leading, 0);
            for (int s = 0; s < atlas.stands; s++) {
                leading[mill.calmlyBehind(s)]++;
            }
            int taken = 0;
            for (int s = 0; s < atlas.stands; s++) {
                if (leading[s] == 0) {
                    path[taken] = s;
                    taken++;
                }
            }
            edens = taken;
            for (int i = 0; i < taken && i < MOST_STANDS; i++) {
                int then = mill.calmlyBehind(path[i]);
                leading[then]--;
                if (leading[then] == 0 && taken < MOST_STANDS) {
                    path[taken] = then;
                    taken++;
                }
            }
            return taken;
        }

        private void nameRounds() {
            Arrays.fill(roundOf, 0);
            rounds = 0;
            for (int s = 0; s < atlas.stands; s++) {
                if (leading[s] > 0 && roundOf[s] == 0) {
                    rounds++;
                    int stand = s;
                    for (int i = 0; i < atlas.stands && roundOf[stand] == 0; i++) {
                        roundOf[stand] = rounds;
                        seen[stand] = 0;
                        stand = mill.calmlyBehind(stand);
                    }
                }
            }
        }

        /** How many stands come to the same round as this one, behind a survey. */
        int sameRound(int stand) {
            int found = 0;
            for (int s = 0; s < atlas.stands; s++) {
                if (roundOf[s] == roundOf[stand]) {
                    found++;
                }
            }
            return found;
        }
    }

    /** Rows of moons in which somebody chooses whom to spare. */
    private static final class Search {
        private final Atlas atlas;
        private final Mill mill;
        private final int[] queue = new int[MOST_STANDS];
        private final int[] before = new int[MOST_STANDS];
        private final int[] deeds = new int[MOST_STANDS];
        private final int[] moons = new int[MOST_STANDS];
        private final int[] first = new int[MOST_STANDS];
        private final int[] second = new int[MOST_STANDS];
        int reached = 0;

        Search(Atlas atlas, Mill mill) {
            this.atlas = atlas;
            this.mill = mill;
        }

        /**
         * The fewest moons from one stand to another, or NONE; all stands are reached if there is
         * no such target. As deeds are tried from 0 on and stands in the order in which they were
         * found, each is found by the first of its shortest rows.
         */
        int reach(int from, int target) {
            Arrays.fill(moons, NONE);
            moons[from] = 0;
            queue[0] = from;
            reached = 1;
            for (int i = 0; i < reached && i < MOST_STANDS; i++) {
                if (queue[i] == target) {
                    return moons[target];
                }
                reachFrom(queue[i]);
            }
            return NONE;
        }

        private void reachFrom(int stand) {
            int greatest = atlas.sizeOf(stand, 0);
            for (int deed = 0; deed <= greatest; deed++) {
                int then = mill.behind(stand, deed);
                if (then >= 0 && moons[then] < 0 && reached < MOST_STANDS) {
                    moons[then] = moons[stand] + 1;
                    before[then] = stand;
                    deeds[then] = deed;
                    queue[reached] = then;
                    reached++;
                }
            }
        }

        /** The deed on the way to a target that so many others follow, behind reach(). */
        int deedOnWay(int target, int followers) {
            int stand = target;
            for (int i = 0; i < followers; i++) {
                stand = before[stand];
            }
            return deeds[stand];
        }

        /**
         * The most moons with no heap above k behind any, NONE if for ever. A stand is settled in
         * the turn behind the last of those it can lead to; one on or ahead of a round never is.
         */
        int longestKept(int from, int k) {
            Arrays.fill(moons, NONE);
            boolean settled = true;
            for (int turn = 0; turn <= MOST_STANDS && settled; turn++) {
                settled = false;
                for (int s = 0; s < atlas.stands; s++) {
                    if (moons[s] < 0 && allSettled(s, k, turn)) {
                        moons[s] = turn;
                        settled = true;
                    }
                }
                if (moons[from] >= 0) {
                    return moons[from];
                }
            }
            return NONE;
        }

        private boolean allSettled(int stand, int k, int turn) {
            int greatest = atlas.sizeOf(stand, 0);
            for (int deed = 0; deed <= greatest; deed++) {
                int then = mill.behind(stand, deed);
                if (then >= 0 && atlas.sizeOf(then, 0) <= k && !isBefore(moons[then], turn)) {
                    return false;
                }
            }
            return true;
        }

        private static boolean isBefore(int moment, int turn) {
            return moment >= 0 && moment < turn;
        }

        /** Within how many moons the first of two forces k heaps at most, or NONE. */
        int forcedWithin(int from, int k) {
            for (int s = 0; s < atlas.stands; s++) {
                first[s] = atlas.heapsOf(s) <= k ? 0 : NONE;
                second[s] = first[s];
            }
            boolean settled = true;
            for (int turn = 1; turn <= 2 * MOST_STANDS && settled && first[from] < 0; turn++) {
                settled = false;
                for (int s = 0; s < atlas.stands; s++) {
                    if (first[s] < 0 && forcingDeed(s, turn) >= 0) {
                        first[s] = turn;
                        settled = true;
                    }
                    if (second[s] < 0 && cannotEvade(s, turn)) {
                        second[s] = turn;
                        settled = true;
                    }
                }
            }
            return first[from];
        }

        /** The first deed by which the first one does it within so many moons, or NONE. */
        int forcingDeed(int stand, int within) {
            int greatest = atlas.sizeOf(stand, 0);
            for (int deed = 0; deed <= greatest; deed++) {
                int then = mill.behind(stand, deed);
                if (then >= 0 && isBefore(second[then], within)) {
                    return deed;
                }
            }
            return NONE;
        }

        private boolean cannotEvade(int stand, int turn) {
            int greatest = atlas.sizeOf(stand, 0);
            for (int deed = 0; deed <= greatest; deed++) {
                int then = mill.behind(stand, deed);
                if (then >= 0 && !isBefore(first[then], turn)) {
                    return false;
                }
            }
            return true;
        }
    }

    /** How many rows (or draws of lots) lead to each stand, level by level. */
    private static final class Spread {
        private static final int LEVELS = MOST_ROW + 1;

        private final Atlas atlas;
        private final Mill mill;
        private final long[] ways = new long[LEVELS * MOST_STANDS];

        Spread(Atlas atlas, Mill mill) {
            this.atlas = atlas;
            this.mill = mill;
        }

        void begin(int stand) {
            emptyLevel(0);
            if (stand >= 0 && stand < MOST_STANDS) {
                ways[stand] = 1;
            }
        }

        private boolean emptyLevel(int level) {
            if (level < 0 || level >= LEVELS) {
                return false;
            }
            for (int s = 0; s < atlas.stands; s++) {
                ways[level * MOST_STANDS + s] = 0;
            }
            return true;
        }

        /** One moon more by any deed; wanted: how many heaps there must be then, or NONE. */
        void stepByDeeds(int level, int wanted) {
            if (level < 0 || !emptyLevel(level + 1)) {
                return;
            }
            int here = level * MOST_STANDS;
            for (int s = 0; s < atlas.stands; s++) {
                int greatest = ways[here + s] > 0 ? atlas.sizeOf(s, 0) : NONE;
                for (int deed = 0; deed <= greatest; deed++) {
                    int then = mill.behind(s, deed);
                    if (then >= 0 && (wanted == NONE || atlas.heapsOf(then) == wanted)) {
                        ways[here + MOST_STANDS + then] += ways[here + s];
                    }
                }
            }
        }

        void stepByLots(int level) {
            if (level < 0 || !emptyLevel(level + 1)) {
                return;
            }
            int here = level * MOST_STANDS;
            for (int s = 0; s < atlas.stands; s++) {
                for (int lot = 0; lot < LOTS && ways[here + s] > 0; lot++) {
                    int then = mill.behindLot(s, lot);
                    if (then >= 0) {
                        ways[here + MOST_STANDS + then] += ways[here + s];
                    }
                }
            }
        }

        /** Rows that end on a level with so many heaps. */
        long withHeaps(int level, int fewest, int most) {
            long found = 0;
            for (int s = 0; s < atlas.stands; s++) {
                if (atlas.heapsOf(s) >= fewest && atlas.heapsOf(s) <= most) {
                    found += ways[level * MOST_STANDS + s];
                }
            }
            return found;
        }

        long greatestSum(int level) {
            long found = 0;
            for (int s = 0; s < atlas.stands; s++) {
                found += ways[level * MOST_STANDS + s] * atlas.sizeOf(s, 0);
            }
            return found;
        }

        /** Strikes, from the last level on, the stands from which no row goes on to the end. */
        void prune(int levels) {
            for (int level = Math.min(levels, LEVELS - 1) - 1; level >= 0; level--) {
                for (int s = 0; s < atlas.stands; s++) {
                    int key = level * MOST_STANDS + s;
                    if (ways[key] > 0 && firstDeed(s, level) < 0) {
                        ways[key] = 0;
                    }
                }
            }
        }

        /** The first deed that leads from a stand of a level to one of the next, or NONE. */
        private int firstDeed(int stand, int level) {
            int greatest = atlas.sizeOf(stand, 0);
            for (int deed = 0; deed <= greatest; deed++) {
                if (leadsOn(mill.behind(stand, deed), level)) {
                    return deed;
                }
            }
            return NONE;
        }

        private boolean leadsOn(int then, int level) {
            return then >= 0 && ways[(level + 1) * MOST_STANDS + then] > 0;
        }

        /** The deed of the i-th moon of the first row from a stand, behind prune(), or NONE. */
        int firstRowDeed(int from, int i) {
            int stand = from;
            for (int level = 0; level < i && stand >= 0; level++) {
                stand = mill.behind(stand, firstDeed(stand, level));
            }
            return stand < 0 ? NONE : firstDeed(stand, i);
        }

        /** Deeds of the i-th moon in any row, as bits, behind prune(). */
        int deedBits(int i) {
            int bits = 0;
            for (int s = 0; s < atlas.stands; s++) {
                int greatest = ways[i * MOST_STANDS + s] > 0 ? atlas.sizeOf(s, 0) : NONE;
                for (int deed = 0; deed <= greatest; deed++) {
                    if (leadsOn(mill.behind(s, deed), i)) {
                        bits |= 1 << deed;
                    }
                }
            }
            return bits;
        }
    }
}
