/**
 * A town's crier who is paid to whisper: who hears a decree, who knows it,
 * and what can be told from that. README.md tells how to use it.
 */
public final class PaidToWhisper {
    public static final int NONE = -1, UNKNOWN = -101, OUTSIDE = -102, STATE = -103, FULL = -104;

    private static final int PLACES = 6;
    private static final int MOST_LISTENERS = 6;
    private static final int MOST_NOISE = 9;
    private static final int MOST_LOUD = 9;
    private static final int MOST_TOLD = 8;
    private static final int MOST_DAYS = 60;
    private static final int MOST_CODE = 126;

    private static final int LISTENER = 0, DEAF = 1, GOOSE = 2, BOY = 3, CLERK = 4;

    private static final int DIGEST_PLACE = 2, DIGEST_LOUD = 5;

    private final Page page;
    private final Town here;
    private final Town kept;
    private final Inquiry inquiry;
    private boolean imageKept;
    private int townsRead;

    public PaidToWhisper() {
        page = new Page();
        here = new Town();
        kept = new Town();
        inquiry = new Inquiry();
        imageKept = false;
        townsRead = 0;
    }

    // ---- the town

    public int letter(int code) {
        if (code < 1 || code > MOST_CODE) {
            return OUTSIDE;
        }
        return page.add(code);
    }

    public int blank() {
        return page.clear();
    }

    public int fault() {
        return page.firstWrong();
    }

    public int town() {
        if (!page.isTown()) {
            return STATE;
        }
        here.begin(page);
        page.clear();
        imageKept = false;
        townsRead++;
        return here.noiseInAll();
    }

    public int noise(int place) {
        return isPlace(place) ? here.noise[place] : UNKNOWN;
    }

    public int hum(int place, int noise) {
        if (!isPlace(place)) {
            return UNKNOWN;
        }
        if (noise < 0 || noise > MOST_NOISE) {
            return OUTSIDE;
        }
        int before = here.noise[place];
        here.noise[place] = noise;
        return before;
    }

    // ---- listeners

    public int listener(int kind, int place) {
        if (!isKind(kind)) {
            return OUTSIDE;
        }
        if (!isPlace(place)) {
            return UNKNOWN;
        }
        return here.settle(kind, place);
    }

    public int about(int listener, int what) {
        if (!isListener(listener)) {
            return UNKNOWN;
        }
        switch (what) {
            case 0: return here.kinds[listener];
            case 1: return here.places[listener];
            case 2: return bit(here.knowing(here.heard), listener);
            case 3: return bit(here.heard, listener);
            case 4: return here.needs[listener];
            case 5: return here.repeats[listener];
            default: return OUTSIDE;
        }
    }

    public int as(int listener, int kind) {
        if (!isListener(listener)) {
            return UNKNOWN;
        }
        if (!isKind(kind)) {
            return OUTSIDE;
        }
        return isOfKind(here.kinds[listener], kind) ? listener : NONE;
    }

    public int move(int listener, int place) {
        if (!isListener(listener) || !isPlace(place)) {
            return UNKNOWN;
        }
        int before = here.places[listener];
        here.places[listener] = place;
        return before;
    }

    // ---- cries

    public int cry(int place, int loud) {
        if (!isPlace(place)) {
            return UNKNOWN;
        }
        if (!isLoud(loud)) {
            return OUTSIDE;
        }
        return here.voice < loud ? STATE : here.proclaim(place, loud);
    }

    public int would(int place, int loud) {
        if (!isPlace(place)) {
            return UNKNOWN;
        }
        if (!isLoud(loud)) {
            return OUTSIDE;
        }
        return here.knowing(here.spread(here.heard, place, loud, 0));
    }

    public int honey() {
        return hasTown() ? here.sweeten() : STATE;
    }

    public int day() {
        return hasTown() ? here.sleep() : STATE;
    }

    public int decree() {
        return hasTown() ? here.renew() : STATE;
    }

    // ---- what would be

    public int least(int what) {
        if (what < 0 || what > 1) {
            return OUTSIDE;
        }
        if (!hasTown()) {
            return STATE;
        }
        inquiry.whisper(here);
        return what == 0 ? inquiry.quietest : inquiry.fewest;
    }

    public int cover(int listeners, int what) {
        boolean namesPart = what == 0 || what >= 10 && what <= 12;
        if (listeners < 0 || listeners > here.everyone() || !namesPart) {
            return OUTSIDE;
        }
        return hasTown() ? Inquiry.partOfPlan(Inquiry.coverPlan(here, listeners), what) : STATE;
    }

    public int hush(int listener, int place, int loud, int what) {
        if (!isListener(listener) || !isPlace(place)) {
            return UNKNOWN;
        }
        if (!isLoud(loud) || what < 0 || what > 1) {
            return OUTSIDE;
        }
        int away = Inquiry.sentAway(here, listener, place, loud);
        return what == 0 ? howMany(away) : away;
    }

    // ---- what is told

    public int tell(int listener, boolean knows) {
        if (!isListener(listener)) {
            return UNKNOWN;
        }
        return here.told >= MOST_TOLD ? FULL : here.note(listener, knows);
    }

    public int forget() {
        return here.dropTold();
    }

    public int where(int what) {
        if (what < 0 || what > 1) {
            return OUTSIDE;
        }
        if (!hasTown()) {
            return STATE;
        }
        inquiry.seek(here);
        return what == 0 ? inquiry.found : inquiry.first;
    }

    public int ask() {
        if (!hasTown()) {
            return STATE;
        }
        inquiry.seek(here);
        return inquiry.bestAsked(here.listeners);
    }

    public int days(int days, int seed, int what) {
        if (days < 1 || days > MOST_DAYS || seed < 0 || what < 0 || what > 2) {
            return OUTSIDE;
        }
        if (!hasTown()) {
            return STATE;
        }
        inquiry.live(here, days, seed);
        switch (what) {
            case 0: return inquiry.together;
            case 1: return inquiry.last;
            default: return inquiry.seed;
        }
    }

    // ---- what is told of all

    public int image() {
        if (!hasTown()) {
            return STATE;
        }
        kept.copy(here);
        imageKept = true;
        return here.decrees;
    }

    public int restore() {
        if (!imageKept) {
            return STATE;
        }
        here.copy(kept);
        return here.decrees;
    }

    public int count(int what) {
        switch (what) {
            case 0: return here.listeners;
            case 1: return here.voice;
            case 2: return here.law;
            case 3: return here.cries;
            case 4: return Integer.bitCount(here.knowing(here.heard));
            case 5: return here.decrees;
            case 6: return here.days;
            case 7: return here.told;
            case 8: return page.length;
            case 9: return townsRead;
            default: return OUTSIDE;
        }
    }

    public long digest() {
        long h = foldListeners(1009L);
        // "With a TOWN" opens all from NOISE to ASK: without one each of these is a refusal.
        if (hasTown()) {
            h = foldQuestions(foldPlaces(h));
        }
        // The letters themselves, not how many: that is in count(8).
        for (int at = 0; at < page.length; at++) {
            h = fold(h, page.letters[at]);
        }
        for (int what = 0; what <= 9; what++) {
            h = fold(h, count(what));
        }
        return h;
    }

    private long foldListeners(long start) {
        long h = start;
        for (int i = 0; i < here.listeners; i++) {
            for (int what = 0; what <= 5; what++) {
                h = fold(h, about(i, what));
            }
            int away = Inquiry.sentAway(here, i, DIGEST_PLACE, MOST_LOUD);
            h = fold(h, howMany(away));
            h = fold(h, away);
        }
        return h;
    }

    private long foldPlaces(long start) {
        long h = start;
        for (int place = 0; place < PLACES; place++) {
            h = fold(h, noise(place));
            h = fold(h, would(place, DIGEST_LOUD));
        }
        return h;
    }

    private long foldQuestions(long start) {
        long h = fold(fold(start, least(0)), least(1));
        // One search serves all four parts: cover() is the dearest question.
        int plan = Inquiry.coverPlan(here, here.everyone());
        h = fold(h, Inquiry.partOfPlan(plan, 0));
        for (int what = 10; what <= 12; what++) {
            h = fold(h, Inquiry.partOfPlan(plan, what));
        }
        return fold(fold(fold(h, where(0)), where(1)), ask());
    }

    private static long fold(long h, long number) {
        return 31L * h + number;
    }

    private boolean hasTown() {
        return townsRead > 0;
    }

    private boolean isPlace(int place) {
        return hasTown() && place >= 0 && place < PLACES;
    }

    private boolean isListener(int listener) {
        return listener >= 0 && listener < here.listeners;
    }

    private static boolean isKind(int kind) {
        return kind >= LISTENER && kind <= CLERK;
    }

    private static boolean isLoud(int loud) {
        return loud >= 1 && loud <= MOST_LOUD;
    }

    private static boolean isOfKind(int own, int asked) {
        return asked == LISTENER || own == asked || own == CLERK && asked == BOY;
    }

    private static int bit(int bits, int number) {
        return bits >> number & 1;
    }

    private static int howMany(int bitsOrNone) {
        return bitsOrNone < 0 ? bitsOrNone : Integer.bitCount(bitsOrNone);
    }

    /** THE PAGE: letters that may come to be a TOWN. */
    private static final class Page {
        private static final int MOST_LETTERS = 12;
        private static final int TOWN_LETTERS = 9;
        private static final int VOICE_AT = 7, LAW_AT = 8;

        private final int[] letters;
        private int length;

        Page() {
            letters = new int[MOST_LETTERS];
            length = 0;
        }

        int add(int code) {
            if (length >= MOST_LETTERS) {
                return FULL;
            }
            letters[length] = code;
            length++;
            return length;
        }

        int clear() {
            int before = length;
            length = 0;
            return before;
        }

        int firstWrong() {
            int at = 0;
            while (at < length && fits(at, letters[at])) {
                at++;
            }
            return at;
        }

        boolean isTown() {
            return length == TOWN_LETTERS && firstWrong() == TOWN_LETTERS;
        }

        int digit(int at) {
            return at >= 0 && at < MOST_LETTERS ? letters[at] - '0' : 0;
        }

        private static boolean fits(int at, int code) {
            if (at < PLACES) {
                return code >= '0' && code <= '9';
            }
            switch (at) {
                case PLACES: return code == ';';
                case VOICE_AT: return code >= '1' && code <= '9';
                case LAW_AT: return code >= '1' && code <= '5';
                default: return false;
            }
        }
    }

    /**
     * A TOWN with all that an IMAGE keeps of it. Sets of LISTENERS are bits, so
     * that what would be can be tried without changing or making anything.
     */
    private static final class Town {
        private static final int HONEY = 2;
        private static final int LOST_BY_PLACE = 2;

        private final int[] noise;
        private final int[] kinds;
        private final int[] needs;
        private final int[] repeats;
        private final int[] places;
        private int listeners;
        private int geese;
        private int heard;
        private int firstVoice;
        private int voice;
        private int law;
        private int cries;
        private int decrees;
        private int days;
        private int told;
        private int toldKnowing;
        private int toldIgnorant;

        Town() {
            noise = new int[PLACES];
            kinds = new int[MOST_LISTENERS];
            needs = new int[MOST_LISTENERS];
            repeats = new int[MOST_LISTENERS];
            places = new int[MOST_LISTENERS];
        }

        void begin(Page page) {
            for (int place = 0; place < PLACES; place++) {
                noise[place] = page.digit(place);
            }
            firstVoice = page.digit(Page.VOICE_AT);
            voice = firstVoice;
            law = page.digit(Page.LAW_AT);
            listeners = 0;
            geese = 0;
            heard = 0;
            cries = 0;
            decrees = 1;
            days = 1;
            dropTold();
        }

        void copy(Town other) {
            System.arraycopy(other.noise, 0, noise, 0, PLACES);
            System.arraycopy(other.kinds, 0, kinds, 0, MOST_LISTENERS);
            System.arraycopy(other.needs, 0, needs, 0, MOST_LISTENERS);
            System.arraycopy(other.repeats, 0, repeats, 0, MOST_LISTENERS);
            System.arraycopy(other.places, 0, places, 0, MOST_LISTENERS);
            listeners = other.listeners;
            geese = other.geese;
            heard = other.heard;
            firstVoice = other.firstVoice;
            voice = other.voice;
            law = other.law;
            cries = other.cries;
            decrees = other.decrees;
            days = other.days;
            told = other.told;
            toldKnowing = other.toldKnowing;
            toldIgnorant = other.toldIgnorant;
        }

        int noiseInAll() {
            int sum = 0;
            for (int place = 0; place < PLACES; place++) {
                sum += noise[place];
            }
            return sum;
        }

        int settle(int kind, int place) {
            int number = listeners;
            if (number >= MOST_LISTENERS) {
                return FULL;
            }
            kinds[number] = kind;
            needs[number] = loudNeeded(kind);
            repeats[number] = loudRepeated(kind);
            places[number] = place;
            if (kind == GOOSE) {
                geese |= 1 << number;
            }
            listeners++;
            return number;
        }

        int everyone() {
            return (1 << listeners) - 1;
        }

        int proclaim(int place, int loud) {
            int after = spread(heard, place, loud, 0);
            int fresh = knowing(after & ~heard);
            heard = after;
            voice--;
            cries++;
            return Integer.bitCount(fresh);
        }

        int sweeten() {
            voice = Math.min(MOST_LOUD, voice + HONEY);
            return voice;
        }

        int sleep() {
            days++;
            voice = firstVoice;
            return voice;
        }

        int renew() {
            // The tests cry oftener than LAW tells and still find it LAWFUL.
            int lawful = cries >= law ? 1 : 0;
            heard = 0;
            cries = 0;
            decrees++;
            return lawful;
        }

        int note(int listener, boolean knows) {
            if (knows) {
                toldKnowing |= 1 << listener;
            } else {
                toldIgnorant |= 1 << listener;
            }
            told++;
            return told;
        }

        int dropTold() {
            int before = told;
            told = 0;
            toldKnowing = 0;
            toldIgnorant = 0;
            return before;
        }

        boolean isAsTold(int knowers) {
            return (toldKnowing & ~knowers) == 0 && (toldIgnorant & knowers) == 0;
        }

        int knowing(int hearers) {
            return hearers & ~geese;
        }

        /** Who has HEARD it, after it is CRIED once and repeated, if those away hear nothing. */
        int spread(int before, int place, int loud, int away) {
            int after = before | hearing(place, loud) & ~away;
            int fresh = after & ~before;
            // A round without a fresh hearer is the last, so there are no more than LISTENERS.
            for (int round = 0; round < listeners && fresh != 0; round++) {
                int repeated = repeatedBy(fresh) & ~away;
                fresh = repeated & ~after;
                after |= repeated;
            }
            return after;
        }

        private int repeatedBy(int fresh) {
            int hearers = 0;
            for (int i = 0; i < listeners; i++) {
                if ((fresh >> i & 1) == 1 && repeats[i] > 0) {
                    hearers |= hearing(places[i], repeats[i]);
                }
            }
            return hearers;
        }

        private int hearing(int place, int loud) {
            int hearers = 0;
            for (int i = 0; i < listeners; i++) {
                int at = places[i];
                int farther = at < place ? place - at : at - place;
                if (loud - LOST_BY_PLACE * farther - noise[at] >= needs[i]) {
                    hearers |= 1 << i;
                }
            }
            return hearers;
        }

        private static int loudNeeded(int kind) {
            switch (kind) {
                case DEAF: return 5;
                case GOOSE: return 3;
                default: return 1;
            }
        }

        private static int loudRepeated(int kind) {
            switch (kind) {
                case BOY: return 4;
                case CLERK: return 7;
                default: return 0;
            }
        }
    }

    /** What would be, and what can be told from who KNOWS; it changes no TOWN. */
    private static final class Inquiry {
        private static final int WHISPER = 1;
        private static final int MOST_CRIES = 3;
        // A plan of CRIES is one number: how many, then its PLACES, so that none must be made.
        private static final int FEW_BITS = 2, FEW_MASK = 3, PLACE_BITS = 3, PLACE_MASK = 7;

        private final int[] knowingAt;
        private int quietest;
        private int fewest;
        private int found;
        private int first;
        private int together;
        private int last;
        private int seed;

        Inquiry() {
            knowingAt = new int[MOST_LISTENERS];
        }

        /** Finds LEAST: the quietest PLACE for one CRY more, and how many KNOW it then. */
        void whisper(Town town) {
            quietest = NONE;
            fewest = NONE;
            for (int place = 0; place < PLACES && town.voice >= WHISPER; place++) {
                int after = town.spread(town.heard, place, WHISPER, 0);
                int knowers = Integer.bitCount(town.knowing(after));
                if (quietest == NONE || knowers < fewest) {
                    quietest = place;
                    fewest = knowers;
                }
            }
        }

        static int coverPlan(Town town, int wanted) {
            for (int few = 0; few <= MOST_CRIES; few++) {
                int plan = planFrom(town, wanted, town.heard, 0, few);
                if (plan != NONE) {
                    return plan << FEW_BITS | few;
                }
            }
            return NONE;
        }

        /** The PLACES of the CRIES from this one on, the nearest in the lowest bits, or NONE. */
        private static int planFrom(Town town, int wanted, int heard, int done, int few) {
            if (done >= few || done >= MOST_CRIES) {
                return (wanted & ~town.knowing(heard)) == 0 ? 0 : NONE;
            }
            int loud = town.voice - done;
            if (loud < 1) {
                return NONE;
            }
            for (int place = 0; place < PLACES; place++) {
                int after = town.spread(heard, place, loud, 0);
                int rest = planFrom(town, wanted, after, done + 1, few);
                if (rest != NONE) {
                    return rest << PLACE_BITS | place;
                }
            }
            return NONE;
        }

        static int partOfPlan(int plan, int what) {
            if (plan < 0) {
                return plan;
            }
            int few = plan & FEW_MASK;
            if (what == 0) {
                return few;
            }
            int cry = what - 10;
            if (cry < 0 || cry >= few) {
                return NONE;
            }
            return plan >> FEW_BITS + PLACE_BITS * cry & PLACE_MASK;
        }

        static int sentAway(Town town, int listener, int place, int loud) {
            int best = NONE;
            int everyone = town.everyone();
            for (int away = 0; away <= everyone; away++) {
                boolean spared = (away >> listener & 1) == 0;
                boolean fewer = best == NONE || Integer.bitCount(away) < Integer.bitCount(best);
                if (spared && fewer && !learns(town, listener, place, loud, away)) {
                    best = away;
                }
            }
            return best;
        }

        private static boolean learns(Town town, int listener, int place, int loud, int away) {
            return (town.knowing(town.spread(0, place, loud, away)) >> listener & 1) == 1;
        }

        /** Finds WHERE it may have been CRIED, and for each LISTENER in how many of these he KNOWS it. */
        void seek(Town town) {
            found = 0;
            first = NONE;
            for (int i = 0; i < MOST_LISTENERS; i++) {
                knowingAt[i] = 0;
            }
            for (int place = 0; place < PLACES; place++) {
                for (int loud = 1; loud <= MOST_LOUD; loud++) {
                    int knowers = town.knowing(town.spread(0, place, loud, 0));
                    if (town.isAsTold(knowers)) {
                        first = found == 0 ? 10 * place + loud : first;
                        found++;
                        tally(knowers);
                    }
                }
            }
        }

        private void tally(int knowers) {
            for (int i = 0; i < MOST_LISTENERS; i++) {
                knowingAt[i] += knowers >> i & 1;
            }
        }

        int bestAsked(int listeners) {
            int best = NONE;
            int leastLeft = found;
            for (int i = 0; i < listeners && i < MOST_LISTENERS && found > 0; i++) {
                int left = Math.max(knowingAt[i], found - knowingAt[i]);
                if (best == NONE || left < leastLeft) {
                    best = i;
                    leastLeft = left;
                }
            }
            return best;
        }

        void live(Town town, int days, int firstSeed) {
            together = 0;
            last = 0;
            seed = firstSeed;
            for (int day = 0; day < days; day++) {
                int place = draw(PLACES);
                int loud = 1 + draw(MOST_LOUD);
                last = Integer.bitCount(town.knowing(town.spread(0, place, loud, 0)));
                together += last;
            }
        }

        private int draw(int sides) {
            seed = (int) (1103515245L * seed + 12345L & 0x7fffffffL);
            return sides > 0 ? seed / 65536 % sides : 0;
        }
    }
}
