/**
 * Lines that go from person to person, ridden by persons who must be near enough to whom they come to.
 * The document ../shared/DOC.md tells what each call must do; words of its own are used here as it uses them.
 */
public final class PersonLines {
    public static final int NONE = -1, UNKNOWN = -1000000001, OUTSIDE = -1000000002, NOT = -1000000003, FULL = -1000000004;

    private static final int MOST_LETTERS = 200;
    private static final int MOST_LETTER = 255;
    private static final int MOST_PERSONS = 8;
    private static final int MOST_LINES = 6;
    private static final int MOST_STOPS = 6;
    private static final int LEAST_STOPS = 2;
    private static final int MOST_FARE = 3;
    private static final int MOST_FIGURES = 3;
    private static final int NEAREST = 9;
    private static final int MOST_AT_ONCE = 30;
    private static final int MOST_UNDONE = 30;
    private static final int LAST_DAY = 9000;
    private static final int MOST_WARM = 99;
    private static final int MOST_SIGHTINGS = 6;
    private static final int MOST_ENTRIES = 20;
    private static final int IMAGES = 2;
    private static final int MOST_NAME_DAYS = 60;
    private static final int THOUSAND = 1000;
    private static final long BILLION = 1000000000L;
    private static final int SLEEP_ODDS = 20;
    private static final long SEEDS = 2147483648L;
    private static final int FARE_ASKED = -2;

    private static final int CANNOT_STAND = 1;
    private static final int WRONG_NUMBER = 2;
    private static final int ONE_TOO_MANY = 3;
    private static final int STOPS_TWICE = 4;

    private final Plan plan;
    private final Reader reader;
    private final Life life;
    private final Life trial;
    private final History history;
    private final Walks walks;
    private final Sightings sightings;
    private final Book book;
    private final Image[] images;
    private int faultPlace;
    private int drawn;

    public PersonLines() {
        plan = new Plan();
        reader = new Reader();
        life = new Life(plan);
        trial = new Life(plan);
        history = new History(plan);
        walks = new Walks();
        sightings = new Sightings(plan);
        book = new Book();
        images = new Image[IMAGES];
        for (int i = 0; i < IMAGES; i++) {
            images[i] = new Image(plan);
        }
        faultPlace = NONE;
    }

    // ---- the town

    public int feed(int letter) {
        if (letter < 0 || letter > MOST_LETTER) {
            return OUTSIDE;
        }
        if (reader.length >= MOST_LETTERS) {
            return FULL;
        }
        reader.add(letter);
        return reader.length;
    }

    public int town() {
        int kind = reader.read();
        faultPlace = reader.faultPlace;
        if (kind != 0) {
            return -10 - kind;
        }
        plan.copyFrom(reader.draft);
        life.begin();
        history.clear();
        sightings.clear();
        book.clear();
        for (int i = 0; i < IMAGES; i++) {
            images[i].kept = false;
        }
        return plan.persons;
    }

    public int fault() {
        return faultPlace;
    }

    public int told(int what) {
        switch (what) {
            case 0: return plan.persons;
            case 1: return plan.lines;
            case 2: return reader.length;
            case 3: return life.days;
            case 4: return life.rides;
            case 5: return life.dead;
            case 6: return walks.pairs(life);
            case 7: return life.together();
            case 8: return sightings.count;
            case 9: return book.count;
            case 10: return history.count;
            default: return OUTSIDE;
        }
    }

    public int near(int p, int q) {
        if (!isPerson(p) || !isPerson(q)) {
            return UNKNOWN;
        }
        return life.nearness(p, q);
    }

    public int at(int p) {
        if (!isPerson(p)) {
            return UNKNOWN;
        }
        return life.gates[p];
    }

    public int line(int l, int i) {
        if (!isLine(l)) {
            return UNKNOWN;
        }
        if (i == FARE_ASKED) {
            return plan.fares[l];
        }
        if (i == NONE) {
            return plan.sizes[l];
        }
        if (!isStop(l, i)) {
            return OUTSIDE;
        }
        return life.stop(l, i);
    }

    // ---- deeds

    public int ride(int p, int l, int n) {
        if (!isPerson(p) || !isLine(l)) {
            return UNKNOWN;
        }
        if (n < 1 || n > MOST_STOPS - 1) {
            return OUTSIDE;
        }
        if (!life.mayBoard(p, l)) {
            return NOT;
        }
        history.remember(life);
        life.carry(p, l, n);
        return life.gates[p];
    }

    public int sleep(int p, int l) {
        if (!isPerson(p) || !isLine(l)) {
            return UNKNOWN;
        }
        if (!life.mayBoard(p, l)) {
            return NOT;
        }
        history.remember(life);
        life.carryAsleep(p, l);
        return life.nearness(p, life.gates[p]);
    }

    public int morning(int n) {
        int refusal = refusalOfDays(n);
        if (refusal != 0) {
            return refusal;
        }
        for (int day = 0; day < n; day++) {
            history.remember(life);
            life.dawn();
        }
        return life.together();
    }

    public int end(int l, int p) {
        if (!isLine(l) || !isPerson(p)) {
            return UNKNOWN;
        }
        if (life.placeOf(l, p) != NONE) {
            return NOT;
        }
        history.remember(life);
        int former = life.ends[l];
        life.ends[l] = p;
        return former;
    }

    public int die(int p) {
        if (!isPerson(p)) {
            return UNKNOWN;
        }
        if (!life.lives(p)) {
            return NOT;
        }
        history.remember(life);
        life.dead |= 1 << p;
        return Integer.bitCount(life.dead);
    }

    public int drift(int n) {
        int refusal = refusalOfDays(n);
        if (refusal != 0) {
            return refusal;
        }
        for (int day = 0; day < n; day++) {
            history.remember(life);
            passDayByDraws();
        }
        return life.rides;
    }

    public int undo(int n) {
        if (n < 1 || n > MOST_UNDONE) {
            return OUTSIDE;
        }
        if (n > history.count) {
            return NOT;
        }
        history.bringBack(life, n);
        return life.days;
    }

    // ---- tried

    public int ways(int p, int q, int what) {
        if (!isPerson(p) || !isPerson(q)) {
            return UNKNOWN;
        }
        if (what < 0 || what > 1) {
            return OUTSIDE;
        }
        if (!life.lives(p)) {
            return NOT;
        }
        walks.lay(life, p, NONE);
        int fewest = walks.fewest(1 << life.gates[p], q);
        return what == 0 ? fewest : walks.firstLine(life, p, q, fewest);
    }

    public int reached(int p) {
        if (!isPerson(p)) {
            return UNKNOWN;
        }
        if (!life.lives(p)) {
            return NOT;
        }
        walks.lay(life, p, NONE);
        return walks.closure(1 << life.gates[p]);
    }

    public int cuts(int p, int q) {
        if (!isPerson(p) || !isPerson(q)) {
            return UNKNOWN;
        }
        if (!life.lives(p)) {
            return NOT;
        }
        if (life.gates[p] == q || !comesWithout(p, q, NONE)) {
            return 0;
        }
        int needed = 0;
        for (int l = 0; l < plan.lines; l++) {
            if (!comesWithout(p, q, l)) {
                needed |= 1 << l;
            }
        }
        return needed;
    }

    public int lacks(int p, int q, int what) {
        if (!isPerson(p) || !isPerson(q) || p == q) {
            return UNKNOWN;
        }
        if (what < 0 || what > 1) {
            return OUTSIDE;
        }
        int least = NONE;
        int leastLine = NONE;
        for (int l = 0; l < plan.lines; l++) {
            int lack = life.lackOn(p, q, l);
            if (lack != NONE && (least == NONE || lack < least)) {
                least = lack;
                leastLine = l;
            }
        }
        return what == 0 ? least : leastLine;
    }

    public int meet(int q) {
        if (!isPerson(q)) {
            return UNKNOWN;
        }
        int met = 0;
        for (int p = 0; p < plan.persons; p++) {
            if (life.lives(p) && life.gates[p] == q) {
                met |= 1 << p;
            }
        }
        return met;
    }

    public int bestEnd() {
        int best = NONE;
        int most = NONE;
        trial.copyFrom(life);
        for (int l = 0; l < plan.lines; l++) {
            for (int p = 0; p < plan.persons; p++) {
                if (p != life.ends[l] && life.placeOf(l, p) != NONE) {
                    continue;
                }
                trial.ends[l] = p;
                int pairs = walks.pairs(trial);
                if (pairs > most) {
                    most = pairs;
                    best = 100 * pairs + 10 * l + p;
                }
            }
            trial.ends[l] = life.ends[l];
        }
        return best;
    }

    public int warm() {
        trial.copyFrom(life);
        trial.sendHome();
        int mornings = 0;
        while (mornings < MOST_WARM) {
            trial.goVisiting();
            if (!trial.dawn()) {
                return mornings;
            }
            mornings++;
        }
        return mornings;
    }

    public int names(int n, int q) {
        if (n < 0 || n > MOST_NAME_DAYS || q < 0 || q > THOUSAND) {
            return OUTSIDE;
        }
        long odds = BILLION;
        for (int day = 0; day < n; day++) {
            odds = odds * (THOUSAND - q) / THOUSAND;
        }
        return (int) odds;
    }

    // ---- what was seen

    public int see(int l, int k) {
        if (!isLine(l)) {
            return UNKNOWN;
        }
        if (!isStop(l, k)) {
            return OUTSIDE;
        }
        if (sightings.count >= MOST_SIGHTINGS) {
            return FULL;
        }
        sightings.add(l, k);
        return sightings.count;
    }

    public int could() {
        return sightings.fitting();
    }

    public int lookAt() {
        return sightings.bestParting();
    }

    public int write(int p, int q) {
        if (!isPerson(p) || !isPerson(q)) {
            return UNKNOWN;
        }
        if (book.count >= MOST_ENTRIES) {
            return FULL;
        }
        book.add(p, q);
        return book.count;
    }

    public int judge() {
        return book.firstWrong(life);
    }

    public int tear() {
        int had = sightings.count + book.count;
        sightings.clear();
        book.clear();
        return had;
    }

    // ---- images

    public int seed(int v) {
        if (v < 0) {
            return OUTSIDE;
        }
        int former = drawn;
        drawn = v;
        return former;
    }

    public int keep(int i) {
        if (!isImage(i)) {
            return UNKNOWN;
        }
        images[i].life.copyFrom(life);
        images[i].drawn = drawn;
        images[i].kept = true;
        history.clear();
        return 1;
    }

    public int goBack(int i) {
        if (!isImage(i)) {
            return UNKNOWN;
        }
        if (!images[i].kept) {
            return NOT;
        }
        life.copyFrom(images[i].life);
        drawn = images[i].drawn;
        history.clear();
        return 1;
    }

    private boolean isPerson(int p) {
        return p >= 0 && p < plan.persons;
    }

    private boolean isLine(int l) {
        return l >= 0 && l < plan.lines;
    }

    private boolean isStop(int l, int i) {
        return i >= 0 && i < plan.sizes[l];
    }

    private boolean isImage(int i) {
        return i >= 0 && i < IMAGES;
    }

    /** 0: these days may pass. */
    private int refusalOfDays(int n) {
        if (n < 1 || n > MOST_AT_ONCE) {
            return OUTSIDE;
        }
        if (plan.persons == 0) {
            return NOT;
        }
        return life.days > LAST_DAY ? FULL : 0;
    }

    private boolean comesWithout(int p, int q, int without) {
        walks.lay(life, p, without);
        return walks.fewest(1 << life.gates[p], q) != NONE;
    }

    private void passDayByDraws() {
        for (int p = 0; p < plan.persons; p++) {
            if (life.lives(p) && plan.lines > 0) {
                rideByDraws(p);
            }
        }
        life.dawn();
    }

    private void rideByDraws(int p) {
        int l = draw(plan.lines);
        // The second draw is made even where the line does not stop: the seed must go on alike.
        int fate = draw(SLEEP_ODDS);
        if (!life.mayBoard(p, l)) {
            return;
        }
        if (fate == 0) {
            life.carryAsleep(p, l);
        } else {
            life.carry(p, l, MOST_STOPS - 1);
        }
    }

    private int draw(int n) {
        drawn = (int) ((drawn * 1103515245L + 12345L) % SEEDS);
        return n > 0 ? drawn / 65536 % n : 0;
    }

    /** What the text told: all that no deed changes, and how all began. */
    private static final class Plan {
        int persons;
        int lines;
        final int[] nearness = new int[MOST_PERSONS * MOST_PERSONS];
        final int[] fares = new int[MOST_LINES];
        final int[] sizes = new int[MOST_LINES];
        final int[] stops = new int[MOST_LINES * MOST_STOPS];

        void copyFrom(Plan other) {
            persons = other.persons;
            lines = other.lines;
            System.arraycopy(other.nearness, 0, nearness, 0, nearness.length);
            System.arraycopy(other.fares, 0, fares, 0, fares.length);
            System.arraycopy(other.sizes, 0, sizes, 0, sizes.length);
            System.arraycopy(other.stops, 0, stops, 0, stops.length);
        }

        void putNearness(int p, int q, int n) {
            nearness[p * MOST_PERSONS + q] = n;
            nearness[q * MOST_PERSONS + p] = n;
        }
    }

    /** Holds the text and reads it into a draft, up to its first fault. */
    private static final class Reader {
        final Plan draft = new Plan();
        final int[] text = new int[MOST_LETTERS];
        int length;
        int faultPlace = NONE;
        private int faultKind;
        private int place;
        private int wordPlace;

        void add(int letter) {
            if (length < MOST_LETTERS) {
                text[length] = letter;
                length++;
            }
        }

        /** The number of the text's fault, 0 if it has none; the text is empty then. */
        int read() {
            draft.persons = 0;
            draft.lines = 0;
            faultKind = 0;
            faultPlace = NONE;
            place = 0;
            skipBlanks();
            for (int clause = 0; clause < MOST_LETTERS && place < length && faultKind == 0; clause++) {
                readClause();
            }
            length = 0;
            return faultKind;
        }

        private void readClause() {
            if (isNext('p')) {
                readPerson();
            } else if (isNext('l')) {
                readLine();
            } else {
                mark(CANNOT_STAND, place);
            }
        }

        private void readPerson() {
            int p = draft.persons;
            if (p >= MOST_PERSONS) {
                mark(ONE_TOO_MANY, place);
                return;
            }
            take('p');
            for (int q = 0; q < p; q++) {
                if (q > 0 && !take(',')) {
                    return;
                }
                int n = takeNumber(NEAREST);
                if (n == NONE) {
                    return;
                }
                draft.putNearness(p, q, n);
            }
            if (take(';')) {
                draft.putNearness(p, p, NEAREST);
                draft.persons++;
            }
        }

        private void readLine() {
            int l = draft.lines;
            if (l >= MOST_LINES) {
                mark(ONE_TOO_MANY, place);
                return;
            }
            take('l');
            int fare = takeNumber(MOST_FARE);
            if (fare == NONE) {
                return;
            }
            int size = readStops(l);
            if (size != NONE && take(';')) {
                draft.fares[l] = fare;
                draft.sizes[l] = size;
                draft.lines++;
            }
        }

        /** How many stops there are; NONE: one has a fault. */
        private int readStops(int l) {
            for (int k = 0; k < MOST_STOPS; k++) {
                if (k >= LEAST_STOPS && !isNext(',')) {
                    return k;
                }
                if (k > 0 && !take(',')) {
                    return NONE;
                }
                int x = takeNumber(draft.persons - 1);
                if (x == NONE) {
                    return NONE;
                }
                if (isAmongFirst(l, k, x)) {
                    mark(STOPS_TWICE, wordPlace);
                    return NONE;
                }
                draft.stops[l * MOST_STOPS + k] = x;
            }
            return MOST_STOPS;
        }

        private boolean isAmongFirst(int l, int k, int x) {
            for (int i = 0; i < k; i++) {
                if (draft.stops[l * MOST_STOPS + i] == x) {
                    return true;
                }
            }
            return false;
        }

        private boolean isNext(int letter) {
            return place < length && text[place] == letter;
        }

        private boolean take(int letter) {
            if (!isNext(letter)) {
                mark(CANNOT_STAND, place);
                return false;
            }
            place++;
            skipBlanks();
            return true;
        }

        /** A number of 0 to most; NONE: it has a fault, which is marked. */
        private int takeNumber(int most) {
            wordPlace = place;
            int value = 0;
            while (place < length && isFigure(text[place])) {
                // Figures beyond the most are a fault anyway: the value must only not wrap around.
                if (place - wordPlace < MOST_FIGURES) {
                    value = value * 10 + text[place] - '0';
                }
                place++;
            }
            int figures = place - wordPlace;
            skipBlanks();
            if (figures == 0) {
                mark(CANNOT_STAND, wordPlace);
                return NONE;
            }
            if (figures > MOST_FIGURES || value > most) {
                mark(WRONG_NUMBER, wordPlace);
                return NONE;
            }
            return value;
        }

        private boolean isFigure(int letter) {
            return letter >= '0' && letter <= '9';
        }

        /** Called behind each word, so that the place is always a word's, or the text's length. */
        private void skipBlanks() {
            while (place < length && text[place] == ' ') {
                place++;
            }
        }

        private void mark(int kind, int where) {
            faultKind = kind;
            faultPlace = where;
        }
    }

    /** All that deeds change, that is undone, and that images keep. */
    private static final class Life {
        final Plan plan;
        final int[] nearness = new int[MOST_PERSONS * MOST_PERSONS];
        final int[] gates = new int[MOST_PERSONS];
        final int[] ends = new int[MOST_LINES];
        int dead;
        int rides;
        int days;

        Life(Plan plan) {
            this.plan = plan;
        }

        void begin() {
            System.arraycopy(plan.nearness, 0, nearness, 0, nearness.length);
            for (int l = 0; l < plan.lines; l++) {
                ends[l] = plan.stops[l * MOST_STOPS + plan.sizes[l] - 1];
            }
            dead = 0;
            rides = 0;
            days = 0;
            sendHome();
        }

        void copyFrom(Life other) {
            System.arraycopy(other.nearness, 0, nearness, 0, nearness.length);
            System.arraycopy(other.gates, 0, gates, 0, gates.length);
            System.arraycopy(other.ends, 0, ends, 0, ends.length);
            dead = other.dead;
            rides = other.rides;
            days = other.days;
        }

        boolean lives(int p) {
            return (dead >> p & 1) == 0;
        }

        int nearness(int p, int q) {
            return nearness[p * MOST_PERSONS + q];
        }

        int together() {
            int sum = 0;
            for (int p = 0; p < plan.persons; p++) {
                for (int q = 0; q < p; q++) {
                    sum += nearness(p, q);
                }
            }
            return sum;
        }

        int stop(int l, int i) {
            return i == plan.sizes[l] - 1 ? ends[l] : plan.stops[l * MOST_STOPS + i];
        }

        /** Which stop of a line a person is; NONE: it is none. */
        int placeOf(int l, int p) {
            for (int i = 0; i < plan.sizes[l]; i++) {
                if (stop(l, i) == p) {
                    return i;
                }
            }
            return NONE;
        }

        /** The stop at which a line leaves from a gate; NONE: it does not stop there, or ends there. */
        int boardingPlace(int l, int gate) {
            int place = placeOf(l, gate);
            return place == plan.sizes[l] - 1 ? NONE : place;
        }

        boolean mayBoard(int p, int l) {
            return lives(p) && boardingPlace(l, gates[p]) != NONE;
        }

        /** By how much nearer a person would have to be to go on to a stop. */
        int lackAt(int p, int l, int k) {
            return Math.max(0, k * plan.fares[l] - nearness(p, stop(l, k)));
        }

        boolean mayGoOn(int p, int l, int k) {
            return lackAt(p, l, k) == 0;
        }

        /** By how much nearer a person would have to be to come to a gate by a line; NONE: it does not go there. */
        int lackOn(int p, int gate, int l) {
            int from = boardingPlace(l, gates[p]);
            int to = placeOf(l, gate);
            if (from == NONE || to <= from) {
                return NONE;
            }
            int lack = 0;
            for (int k = from + 1; k <= to; k++) {
                lack += lackAt(p, l, k);
            }
            return lack;
        }

        void carry(int p, int l, int n) {
            int from = boardingPlace(l, gates[p]);
            if (from == NONE) {
                return;
            }
            int k = from;
            while (k - from < n && k + 1 < plan.sizes[l] && mayGoOn(p, l, k + 1)) {
                k++;
            }
            gates[p] = stop(l, k);
            rides++;
        }

        void carryAsleep(int p, int l) {
            gates[p] = ends[l];
            rides++;
            if (lives(ends[l])) {
                bringNearer(p, ends[l]);
            }
        }

        /** False: they are as near as can be. */
        private boolean bringNearer(int p, int q) {
            int n = nearness(p, q);
            if (n >= NEAREST) {
                return false;
            }
            nearness[p * MOST_PERSONS + q] = n + 1;
            nearness[q * MOST_PERSONS + p] = n + 1;
            return true;
        }

        /** A morning; true if some two get nearer by it. */
        boolean dawn() {
            boolean warmer = false;
            for (int p = 0; p < plan.persons; p++) {
                for (int q = 0; q < p; q++) {
                    if (lives(p) && lives(q) && gates[p] == gates[q] && bringNearer(p, q)) {
                        warmer = true;
                    }
                }
            }
            sendHome();
            days++;
            return warmer;
        }

        /** The dead stay where they are. */
        void sendHome() {
            for (int p = 0; p < plan.persons; p++) {
                if (lives(p)) {
                    gates[p] = p;
                }
            }
        }

        /** Each who lives rides, if it may go on, by the least line on which it may. */
        void goVisiting() {
            for (int p = 0; p < plan.persons; p++) {
                int l = lives(p) ? visitingLine(p) : NONE;
                if (l != NONE) {
                    carry(p, l, MOST_STOPS - 1);
                }
            }
        }

        private int visitingLine(int p) {
            for (int l = 0; l < plan.lines; l++) {
                int from = boardingPlace(l, gates[p]);
                if (from != NONE && mayGoOn(p, l, from + 1)) {
                    return l;
                }
            }
            return NONE;
        }
    }

    /** The lives ahead of the latest deeds, in a ring. */
    private static final class History {
        private final Life[] ring = new Life[MOST_UNDONE];
        private int next;
        int count;

        History(Plan plan) {
            for (int i = 0; i < MOST_UNDONE; i++) {
                ring[i] = new Life(plan);
            }
        }

        void clear() {
            count = 0;
        }

        void remember(Life life) {
            ring[next].copyFrom(life);
            next = (next + 1) % MOST_UNDONE;
            count = Math.min(count + 1, MOST_UNDONE);
        }

        void bringBack(Life life, int n) {
            if (n < 1 || n > count) {
                return;
            }
            next = (next + MOST_UNDONE - n) % MOST_UNDONE;
            count -= n;
            life.copyFrom(ring[next]);
        }
    }

    /** Where one person could come from each gate: sets of gates, laid for that person. */
    private static final class Walks {
        private final int[] onward = new int[MOST_PERSONS];

        /** Lays all lines but one (NONE: all) for a person. */
        void lay(Life life, int p, int without) {
            for (int gate = 0; gate < MOST_PERSONS; gate++) {
                onward[gate] = 0;
            }
            for (int l = 0; l < life.plan.lines; l++) {
                if (l != without) {
                    layLine(life, p, l);
                }
            }
        }

        /** From the end backwards: a stop that may not be gone on to hides all behind it. */
        private void layLine(Life life, int p, int l) {
            int ahead = 0;
            for (int k = life.plan.sizes[l] - 1; k > 0; k--) {
                ahead = life.mayGoOn(p, l, k) ? ahead | 1 << life.stop(l, k) : 0;
                onward[life.stop(l, k - 1)] |= ahead;
            }
        }

        /** These gates, and all to which one ride leads from one of them. */
        private int widened(int gates) {
            int wider = gates;
            for (int gate = 0; gate < MOST_PERSONS; gate++) {
                if ((gates >> gate & 1) != 0) {
                    wider |= onward[gate];
                }
            }
            return wider;
        }

        int closure(int gates) {
            int all = gates;
            for (int rides = 1; rides < MOST_PERSONS; rides++) {
                all = widened(all);
            }
            return all;
        }

        /** The fewest rides from one of these gates to another one; NONE: by none. */
        int fewest(int gates, int gate) {
            int all = gates;
            for (int rides = 0; rides < MOST_PERSONS; rides++) {
                if ((all >> gate & 1) != 0) {
                    return rides;
                }
                all = widened(all);
            }
            return NONE;
        }

        /** The least line by which a way of the fewest rides begins; all lines are laid for the person. */
        int firstLine(Life life, int p, int gate, int fewest) {
            if (fewest < 1) {
                return NONE;
            }
            for (int l = 0; l < life.plan.lines; l++) {
                if (fewest(byOneRide(life, p, l), gate) == fewest - 1) {
                    return l;
                }
            }
            return NONE;
        }

        private int byOneRide(Life life, int p, int l) {
            int from = life.boardingPlace(l, life.gates[p]);
            int gates = 0;
            if (from != NONE) {
                for (int k = from + 1; k < life.plan.sizes[l] && life.mayGoOn(p, l, k); k++) {
                    gates |= 1 << life.stop(l, k);
                }
            }
            return gates;
        }

        int pairs(Life life) {
            int pairs = 0;
            for (int p = 0; p < life.plan.persons; p++) {
                if (life.lives(p)) {
                    lay(life, p, NONE);
                    pairs += Integer.bitCount(closure(1 << p)) - 1;
                }
            }
            return pairs;
        }
    }

    /** Where a person, alike near to all but not known how near, was seen to get off. */
    private static final class Sightings {
        private final Plan plan;
        private final int[] lines = new int[MOST_SIGHTINGS];
        private final int[] stops = new int[MOST_SIGHTINGS];
        private final int[] parts = new int[MOST_STOPS];
        int count;

        Sightings(Plan plan) {
            this.plan = plan;
        }

        void clear() {
            count = 0;
        }

        void add(int l, int k) {
            if (count < MOST_SIGHTINGS) {
                lines[count] = l;
                stops[count] = k;
                count++;
            }
        }

        /** The stop at which one gets off who is as near as v to all. */
        private int stopBy(int v, int l) {
            int last = plan.sizes[l] - 1;
            int fare = plan.fares[l];
            return fare == 0 ? last : Math.min(last, v / fare);
        }

        private boolean fits(int v) {
            for (int i = 0; i < count; i++) {
                if (stopBy(v, lines[i]) != stops[i]) {
                    return false;
                }
            }
            return true;
        }

        int fitting() {
            int set = 0;
            for (int v = 0; v <= NEAREST; v++) {
                if (fits(v)) {
                    set |= 1 << v;
                }
            }
            return set;
        }

        /** The line that parts best all that fits; NONE: none parts it. */
        int bestParting() {
            int set = fitting();
            int best = NONE;
            int least = Integer.bitCount(set);
            for (int l = 0; l < plan.lines; l++) {
                int greatest = greatestPart(set, l);
                if (greatest < least) {
                    least = greatest;
                    best = l;
                }
            }
            return best;
        }

        private int greatestPart(int set, int l) {
            for (int k = 0; k < MOST_STOPS; k++) {
                parts[k] = 0;
            }
            int greatest = 0;
            for (int v = 0; v <= NEAREST; v++) {
                if ((set >> v & 1) != 0) {
                    int k = stopBy(v, l);
                    parts[k]++;
                    greatest = Math.max(greatest, parts[k]);
                }
            }
            return greatest;
        }
    }

    /** Entries that tell at whose gate persons are. */
    private static final class Book {
        private final int[] persons = new int[MOST_ENTRIES];
        private final int[] gates = new int[MOST_ENTRIES];
        int count;

        void clear() {
            count = 0;
        }

        void add(int p, int gate) {
            if (count < MOST_ENTRIES) {
                persons[count] = p;
                gates[count] = gate;
                count++;
            }
        }

        int firstWrong(Life life) {
            for (int i = 0; i < count; i++) {
                if (life.gates[persons[i]] != gates[i]) {
                    return i;
                }
            }
            return NONE;
        }
    }

    /** A life to go on from, with the seed that it had. */
    private static final class Image {
        final Life life;
        int drawn;
        boolean kept;

        Image(Plan plan) {
            life = new Life(plan);
        }
    }
}
