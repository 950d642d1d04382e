import java.util.Arrays;

/** A city that picks its head by lots and votes in turn; the document's promises stand in ../shared/DOC.md. */
public final class ElectionHouse {
    public static final int NONE = -1;

    private static final int MOST_CITIZENS = 40;
    private static final int HOUSES = 12;
    private static final int PARTIES = 4;
    private static final int MOST_PAIRS = 60;
    private static final int MOST_BYTES = 300;
    private static final int FED_BYTES = 20;
    private static final int MOST_STEPS = 12;
    private static final int MOST_LOTS = 500;
    private static final int LOT_VALUES = 10000;
    private static final int MOST_HOUSE_LIMIT = 9;
    private static final int FIRST_VOTES = 100;

    private static final int NO_WORD = 0;
    private static final int DRAW = 1;
    private static final int CHOOSE = 2;
    private static final int ELECT = 3;
    private static final int BY = 4;
    private static final int HOUSE = 5;

    private static final int BLANK = 32;
    private static final int SEMICOLON = 59;

    private static final int CANT_STAND = 0;
    private static final int BAD_NUMBER = 1;
    private static final int STEP_TOO_MANY = 2;
    private static final int CANT_BE_MET = 3;

    private static final int STEP_DONE = 0;
    private static final int LOTS_LACK = 1;
    private static final int CANT_FILL = 2;
    private static final int NO_STEP = 3;

    private static final int SPENT = -2;
    private static final long MOST_WAYS = 1000000000000000L;
    private static final int MOST_BODIES = 600;
    private static final int UNFILLED = 40;
    private static final int IN_ALL = 41;
    private static final int SIDE = MOST_CITIZENS + 1;

    private final City city;
    private final Tape tape;
    private final Reader reader;
    private final LotRow lots;
    private final Poll poll;
    private final Session session;
    private final Odds odds;
    private Plan draft;

    public ElectionHouse() {
        city = new City();
        tape = new Tape();
        reader = new Reader(tape);
        lots = new LotRow();
        poll = new Poll();
        session = new Session(city, lots, poll);
        odds = new Odds(city, session);
        draft = new Plan();
    }

    public int citizen(int house, int party) {
        if (session.stepsDone() > 0) {
            return NONE;
        }
        return city.settle(house, party);
    }

    public boolean there(int citizen, boolean is) {
        return city.setThere(citizen, is);
    }

    public boolean kin(int a, int b) {
        return city.tellKin(a, b);
    }

    public boolean says(int voters, int party, boolean yes) {
        return city.setYes(voters, party, yes);
    }

    public boolean turn(int citizen, int house, int party) {
        return city.convert(citizen, house, party);
    }

    public int feed(int a, int b, int c, int d, int e) {
        if (!tape.hasRoom(FED_BYTES)) {
            return NONE;
        }
        tape.append(a);
        tape.append(b);
        tape.append(c);
        tape.append(d);
        tape.append(e);
        return tape.length();
    }

    public int end(int n) {
        return tape.cut(n) ? n : NONE;
    }

    public int procedure() {
        int fault = reader.read(draft);
        tape.cut(0);
        if (fault != 0) {
            return -2 - fault;
        }
        // The plan that was in force becomes the next draft, so that no call makes a new one.
        draft = session.begin(draft);
        return session.stepsInAll();
    }

    public int lot(int v) {
        return lots.tell(v);
    }

    public int step() {
        return session.doNext();
    }

    public boolean protest(int k) {
        return session.undoFrom(k);
    }

    public int body(int k) {
        return session.member(k);
    }

    public int ballot(int what) {
        return poll.answer(what);
    }

    public int elected() {
        return session.head();
    }

    public int chances() {
        return odds.reckon();
    }

    public long ways(int c) {
        return odds.answer(c);
    }

    public int about(int citizen, int what) {
        if (!city.has(citizen)) {
            return NONE;
        }
        switch (what) {
            case 0:
                return city.houseOf(citizen);
            case 1:
                return city.partyOf(citizen);
            case 2:
                return city.isThere(citizen) ? 1 : 0;
            case 3:
                return city.kinOf(citizen);
            default:
                return NONE;
        }
    }

    public int count(int what) {
        switch (what) {
            case 0:
                return city.size();
            case 1:
                return city.sizeThere();
            case 2:
                return city.pairsTold();
            case 3:
                return session.stepsInAll();
            case 4:
                return session.stepsDone();
            case 5:
                return session.bodySize();
            case 6:
                return lots.waiting();
            case 7:
                return lots.usedInAll();
            case 8:
                return tape.length();
            default:
                return NONE;
        }
    }

    /** The citizens, what ties them, and which party's voters say yes to which. */
    private static final class City {
        private final int[] houses = new int[MOST_CITIZENS];
        private final int[] parties = new int[MOST_CITIZENS];
        private final boolean[] present = new boolean[MOST_CITIZENS];
        private final boolean[] yes = new boolean[PARTIES * PARTIES];
        /** Bit b of row a: the pair was told (each pair stands in both rows). */
        private final long[] told = new long[MOST_CITIZENS];
        private int size;
        private int pairs;

        City() {
            for (int p = 0; p < PARTIES; p++) {
                yes[p * PARTIES + p] = true;
            }
        }

        int size() {
            return size;
        }

        int pairsTold() {
            return pairs;
        }

        boolean has(int c) {
            return c >= 0 && c < size && c < MOST_CITIZENS;
        }

        static boolean isHouse(int house) {
            return house >= 0 && house < HOUSES;
        }

        static boolean isParty(int party) {
            return party >= 0 && party < PARTIES;
        }

        int settle(int house, int party) {
            if (size >= MOST_CITIZENS || !isHouse(house) || !isParty(party)) {
                return NONE;
            }
            int c = size;
            houses[c] = house;
            parties[c] = party;
            present[c] = true;
            size++;
            return c;
        }

        boolean setThere(int c, boolean is) {
            if (!has(c) || present[c] == is) {
                return false;
            }
            present[c] = is;
            return true;
        }

        boolean tellKin(int a, int b) {
            if (!has(a) || !has(b) || a == b || wasTold(a, b) || pairs >= MOST_PAIRS) {
                return false;
            }
            told[a] |= 1L << b;
            told[b] |= 1L << a;
            pairs++;
            return true;
        }

        boolean setYes(int voters, int party, boolean is) {
            if (!isParty(voters) || !isParty(party)) {
                return false;
            }
            int at = voters * PARTIES + party;
            if (yes[at] == is) {
                return false;
            }
            yes[at] = is;
            return true;
        }

        boolean convert(int c, int house, int party) {
            if (!has(c) || !isHouse(house) || !isParty(party)) {
                return false;
            }
            houses[c] = house;
            parties[c] = party;
            return true;
        }

        int houseOf(int c) {
            return has(c) ? houses[c] : 0;
        }

        int partyOf(int c) {
            return has(c) ? parties[c] : 0;
        }

        boolean isThere(int c) {
            return has(c) && present[c];
        }

        int sizeThere() {
            int n = 0;
            for (int c = 0; c < size; c++) {
                if (isThere(c)) {
                    n++;
                }
            }
            return n;
        }

        boolean saysYes(int voters, int party) {
            return isParty(voters) && isParty(party) && yes[voters * PARTIES + party];
        }

        /** Of two who are citizens, as each caller has looked. */
        private boolean wasTold(int a, int b) {
            return (told[a] >>> b & 1L) != 0L;
        }

        boolean areKin(int a, int b) {
            return has(a) && has(b) && a != b && (houses[a] == houses[b] || wasTold(a, b));
        }

        int kinOf(int c) {
            int n = 0;
            for (int other = 0; other < size; other++) {
                if (areKin(c, other)) {
                    n++;
                }
            }
            return n;
        }
    }

    /** The bytes that were fed and not yet read as a procedure. */
    private static final class Tape {
        private final int[] bytes = new int[MOST_BYTES];
        private int length;

        int length() {
            return length;
        }

        boolean hasRoom(int more) {
            return more <= MOST_BYTES - length;
        }

        void append(int four) {
            for (int shift = 24; shift >= 0; shift -= 8) {
                if (hasRoom(1)) {
                    bytes[length] = four >>> shift & 255;
                    length++;
                }
            }
        }

        boolean cut(int n) {
            if (n < 0 || n > length) {
                return false;
            }
            length = n;
            return true;
        }

        int at(int place) {
            return place >= 0 && place < length ? bytes[place] : NONE;
        }
    }

    /** The steps of a procedure; without any step it stands for no procedure. */
    private static final class Plan {
        private final int[] kinds = new int[MOST_STEPS];
        private final int[] sizes = new int[MOST_STEPS];
        private final int[] votes = new int[MOST_STEPS];
        private final int[] limits = new int[MOST_STEPS];
        private int length;

        int length() {
            return length;
        }

        void clear() {
            length = 0;
        }

        void add(int kind, int size, int needed, int limit) {
            if (length < MOST_STEPS) {
                kinds[length] = kind;
                sizes[length] = size;
                votes[length] = needed;
                limits[length] = limit;
                length++;
            }
        }

        private boolean has(int i) {
            return i >= 0 && i < length;
        }

        int kindOf(int i) {
            return has(i) ? kinds[i] : NO_WORD;
        }

        /** How many the step draws, chooses or elects. */
        int sizeOf(int i) {
            return has(i) ? sizes[i] : 0;
        }

        int votesOf(int i) {
            return has(i) ? votes[i] : 0;
        }

        /** How many of one house the step may choose; 0: no limit. */
        int limitOf(int i) {
            return has(i) ? limits[i] : 0;
        }
    }

    /** Reads the tape from left to right for its steps or its first fault. */
    private static final class Reader {
        private final Tape tape;
        private int place;
        private int bodyByText;
        private int fault;

        Reader(Tape tape) {
            this.tape = tape;
        }

        /** 0, or the fault (then the plan is of no use). */
        int read(Plan plan) {
            place = 0;
            bodyByText = 0;
            fault = 0;
            plan.clear();
            boolean more = true;
            for (int i = 0; more && i <= MOST_STEPS; i++) {
                more = readStep(plan, i);
            }
            return fault;
        }

        /** Whether a further step is told. */
        private boolean readStep(Plan plan, int i) {
            skipBlanks();
            int start = place;
            int word = takeWord();
            boolean begins = word == DRAW || i > 0 && (word == CHOOSE || word == ELECT);
            if (!begins) {
                return fail(start, CANT_STAND);
            }
            if (i >= MOST_STEPS) {
                return fail(start, STEP_TOO_MANY);
            }
            int n = word == ELECT ? 1 : takeNumber(MOST_CITIZENS, word == DRAW && i > 0 ? bodyByText : MOST_CITIZENS);
            int m = word == DRAW ? 0 : takeVotes();
            int h = word == CHOOSE ? takeHouseLimit() : 0;
            boolean more = word == ELECT ? takeEnd() : takeSemicolon();
            if (fault != 0) {
                return false;
            }
            plan.add(word, n, m, h);
            bodyByText = n;
            return more;
        }

        /** The M of "by M"; 0 at a fault. */
        private int takeVotes() {
            skipBlanks();
            int start = place;
            if (takeWord() != BY) {
                fail(start, CANT_STAND);
                return 0;
            }
            return takeNumber(MOST_CITIZENS, bodyByText);
        }

        /** The H of "house H"; 0 where it is not told, or at a fault. */
        private int takeHouseLimit() {
            skipBlanks();
            if (!isLetter(tape.at(place))) {
                return 0;
            }
            int start = place;
            if (takeWord() != HOUSE) {
                fail(start, CANT_STAND);
                return 0;
            }
            return takeNumber(MOST_HOUSE_LIMIT, MOST_HOUSE_LIMIT);
        }

        /** A number of 1 to highest that is at most what can be met; 0 at a fault. */
        private int takeNumber(int highest, int met) {
            skipBlanks();
            int start = place;
            int value = 0;
            while (place < tape.length() && isDigit(tape.at(place))) {
                // Of a third digit on the value no longer matters, and must not run over.
                if (place - start < 2) {
                    value = value * 10 + tape.at(place) - '0';
                }
                place++;
            }
            int digits = place - start;
            if (digits == 0) {
                fail(start, CANT_STAND);
                return 0;
            }
            if (digits > 2 || value < 1 || value > highest) {
                fail(start, BAD_NUMBER);
                return 0;
            }
            if (value > met) {
                fail(start, CANT_BE_MET);
                return 0;
            }
            return value;
        }

        /** Always false, as no step stands behind the end. */
        private boolean takeEnd() {
            skipBlanks();
            return place < tape.length() && fail(place, CANT_STAND);
        }

        private boolean takeSemicolon() {
            skipBlanks();
            if (tape.at(place) != SEMICOLON) {
                return fail(place, CANT_STAND);
            }
            place++;
            return true;
        }

        private int takeWord() {
            int start = place;
            while (place < tape.length() && isLetter(tape.at(place))) {
                place++;
            }
            if (spells(start, "draw")) {
                return DRAW;
            }
            if (spells(start, "choose")) {
                return CHOOSE;
            }
            if (spells(start, "elect")) {
                return ELECT;
            }
            if (spells(start, "by")) {
                return BY;
            }
            return spells(start, "house") ? HOUSE : NO_WORD;
        }

        /** Whether the bytes from start up to the place at hand are this word. */
        private boolean spells(int start, String word) {
            if (place - start != word.length()) {
                return false;
            }
            for (int i = 0; i < word.length(); i++) {
                if (tape.at(start + i) != word.charAt(i)) {
                    return false;
                }
            }
            return true;
        }

        private void skipBlanks() {
            while (place < tape.length() && tape.at(place) == BLANK) {
                place++;
            }
        }

        /** Reading may go on behind a fault, but only the first one counts. */
        private boolean fail(int where, int kind) {
            if (fault == 0) {
                fault = 1 + 8 * where + kind;
            }
            return false;
        }

        private static boolean isLetter(int b) {
            return b >= 'a' && b <= 'z';
        }

        private static boolean isDigit(int b) {
            return b >= '0' && b <= '9';
        }
    }

    /** The lots that wait, in the order in which they were told. */
    private static final class LotRow {
        private final int[] ring = new int[MOST_LOTS];
        private int first;
        private int waiting;
        private int used;

        int waiting() {
            return waiting;
        }

        int usedInAll() {
            return used;
        }

        int tell(int v) {
            if (waiting >= MOST_LOTS || v < 0 || v >= LOT_VALUES) {
                return NONE;
            }
            ring[(first + waiting) % MOST_LOTS] = v;
            waiting++;
            return waiting;
        }

        private int at(int k) {
            return k >= 0 && k < waiting ? ring[(first + k) % MOST_LOTS] : NONE;
        }

        /** The place of the first lot from k on that is fair among so many left; NONE: they lack. */
        int seekFair(int k, int left) {
            if (left < 1) {
                return NONE;
            }
            int bound = left * (LOT_VALUES / left);
            for (int i = Math.max(k, 0); i < waiting; i++) {
                if (at(i) < bound) {
                    return i;
                }
            }
            return NONE;
        }

        /** Which one of so many left the lot at place k picks. */
        int pick(int k, int left) {
            int v = at(k);
            return left < 1 || v < 0 ? 0 : v % left;
        }

        void use(int n) {
            if (n > 0 && n <= waiting) {
                first = (first + n) % MOST_LOTS;
                waiting -= n;
                used += n;
            }
        }
    }

    /** What the latest choice or election told. */
    private static final class Poll {
        private final int[] votes = new int[MOST_CITIZENS];
        private boolean wasTried;
        private int barred;
        private int votedOn;
        private int chosen;

        void open() {
            wasTried = true;
            barred = 0;
            votedOn = 0;
            chosen = 0;
            Arrays.fill(votes, NONE);
        }

        void bar() {
            barred++;
        }

        void note(int c, int n, boolean isChosen) {
            if (c < 0 || c >= MOST_CITIZENS) {
                return;
            }
            votes[c] = n;
            votedOn++;
            if (isChosen) {
                chosen++;
            }
        }

        int answer(int what) {
            if (!wasTried) {
                return NONE;
            }
            switch (what) {
                case 0:
                    return barred;
                case 1:
                    return votedOn;
                case 2:
                    return chosen;
                default:
                    return votesAt(what);
            }
        }

        private int votesAt(int what) {
            boolean isOne = what >= FIRST_VOTES && what < FIRST_VOTES + MOST_CITIZENS;
            return isOne ? votes[what - FIRST_VOTES] : NONE;
        }
    }

    /** The procedure in force, how far it is done, and the body ahead of and behind each step done. */
    private static final class Session {
        private final City city;
        private final LotRow lots;
        private final Poll poll;
        /** Row k: the body ahead of step k. Row 0 is made anew when asked, as it goes by who is there. */
        private final int[][] bodies = new int[MOST_STEPS + 1][MOST_CITIZENS];
        private final int[] sizes = new int[MOST_STEPS + 1];
        private final int[] row = new int[MOST_CITIZENS];
        private final int[] ofHouse = new int[HOUSES];
        private Plan plan = new Plan();
        private int done;
        private int head = NONE;

        Session(City city, LotRow lots, Poll poll) {
            this.city = city;
            this.lots = lots;
            this.poll = poll;
        }

        /** Takes a plan and hands back the one ahead of it. */
        Plan begin(Plan taken) {
            Plan ahead = plan;
            plan = taken;
            done = 0;
            head = NONE;
            return ahead;
        }

        Plan plan() {
            return plan;
        }

        int stepsInAll() {
            return plan.length();
        }

        int stepsDone() {
            return done;
        }

        int head() {
            return head;
        }

        int bodySize() {
            if (done == 0) {
                gatherFirstBody();
            }
            return sizes[done];
        }

        int member(int k) {
            return k >= 0 && k < bodySize() ? bodies[done][k] : NONE;
        }

        private void gatherFirstBody() {
            int n = 0;
            for (int c = 0; c < city.size() && n < MOST_CITIZENS; c++) {
                if (city.isThere(c)) {
                    bodies[0][n] = c;
                    n++;
                }
            }
            sizes[0] = n;
        }

        boolean undoFrom(int k) {
            if (k < 0 || k >= done) {
                return false;
            }
            done = k;
            head = NONE;
            return true;
        }

        int doNext() {
            if (done >= plan.length() || done >= MOST_STEPS) {
                return NO_STEP;
            }
            switch (plan.kindOf(done)) {
                case DRAW:
                    return draw(plan.sizeOf(done));
                case CHOOSE:
                    return choose();
                default:
                    return elect();
            }
        }

        private int draw(int n) {
            int size = bodySize();
            if (size < n) {
                return CANT_FILL;
            }
            System.arraycopy(bodies[done], 0, row, 0, size);
            int looked = 0;
            for (int i = 0; i < n; i++) {
                int left = size - i;
                int found = lots.seekFair(looked, left);
                if (found == NONE) {
                    return LOTS_LACK;
                }
                bodies[done + 1][i] = takeOut(lots.pick(found, left), left);
                looked = found + 1;
            }
            lots.use(looked);
            stand(n);
            return STEP_DONE;
        }

        /** Takes the one at a place out of the row of those left. */
        private int takeOut(int place, int left) {
            if (place < 0 || place >= left || left > MOST_CITIZENS) {
                return NONE;
            }
            int c = row[place];
            System.arraycopy(row, place + 1, row, place, left - place - 1);
            return c;
        }

        private int choose() {
            int n = plan.sizeOf(done);
            if (!fillByVotes(n)) {
                return CANT_FILL;
            }
            System.arraycopy(row, 0, bodies[done + 1], 0, n);
            stand(n);
            return STEP_DONE;
        }

        private int elect() {
            if (!fillByVotes(1)) {
                return CANT_FILL;
            }
            int size = bodySize();
            System.arraycopy(bodies[done], 0, bodies[done + 1], 0, size);
            head = row[0];
            stand(size);
            return STEP_DONE;
        }

        /** The step at hand is done, and left a body of this size. */
        private void stand(int size) {
            if (done < MOST_STEPS) {
                done++;
                sizes[done] = size;
            }
        }

        /** Votes until n stand in the row: whether so many do. */
        private boolean fillByVotes(int n) {
            int needed = plan.votesOf(done);
            int limit = plan.limitOf(done);
            int voters = bodySize();
            int chosen = 0;
            poll.open();
            Arrays.fill(ofHouse, 0);
            for (int c = 0; c < city.size() && chosen < n; c++) {
                if (!city.isThere(c)) {
                    continue;
                }
                int house = city.houseOf(c);
                if (limit > 0 && chosenOf(house) >= limit) {
                    poll.bar();
                    continue;
                }
                int votes = votesFor(c, voters);
                poll.note(c, votes, votes >= needed);
                if (votes >= needed && chosen < MOST_CITIZENS) {
                    row[chosen] = c;
                    chosen++;
                    countHouse(house);
                }
            }
            return chosen >= n;
        }

        private int chosenOf(int house) {
            return City.isHouse(house) ? ofHouse[house] : 0;
        }

        private void countHouse(int house) {
            if (City.isHouse(house)) {
                ofHouse[house]++;
            }
        }

        private int votesFor(int c, int voters) {
            int votes = 0;
            for (int i = 0; i < voters; i++) {
                int v = bodies[done][i];
                boolean mayVote = v != c && city.isThere(v) && !city.areKin(v, c);
                if (mayVote && city.saysYes(city.partyOf(v), city.partyOf(c))) {
                    votes++;
                }
            }
            return votes;
        }
    }

    /** Unlike bodies of one size, by how many of each party they have, and the ways that lead to each. */
    private static final class Tally {
        private static final int SLOTS = 1024;

        private final int[] keys = new int[MOST_BODIES];
        private final long[] ways = new long[MOST_BODIES];
        /** Where a key stands, plus one; 0 for a free slot. */
        private final int[] slots = new int[SLOTS];
        private int length;

        int length() {
            return length;
        }

        void clear() {
            length = 0;
            Arrays.fill(slots, 0);
        }

        int keyAt(int i) {
            return i >= 0 && i < length ? keys[i] : 0;
        }

        long waysAt(int i) {
            return i >= 0 && i < length ? ways[i] : 0L;
        }

        /** False: it would be one body more than there may be. */
        boolean add(int key, long more) {
            int slot = key * 37 & SLOTS - 1;
            for (int tries = 0; tries < SLOTS && slots[slot] != 0; tries++) {
                int at = slots[slot] - 1;
                if (at >= 0 && at < length && keys[at] == key) {
                    ways[at] += more;
                    return true;
                }
                slot = slot + 1 & SLOTS - 1;
            }
            if (length >= MOST_BODIES) {
                return false;
            }
            keys[length] = key;
            ways[length] = more;
            length++;
            slots[slot] = length;
            return true;
        }
    }

    /** Counts the ways of all steps to come, over bodies that are told apart by their parties alone. */
    private static final class Odds {
        private final City city;
        private final Session session;
        /** At n * SIDE + k: how many sets of k there are of n. */
        private final long[] sets = new long[SIDE * SIDE];
        /** How many rows of sets the draws behind each step have. */
        private final long[] later = new long[MOST_STEPS];
        private final int[] has = new int[PARTIES];
        private final int[] gets = new int[PARTIES];
        private final boolean[] enough = new boolean[PARTIES];
        /** What the city tells, looked up once a count: some hundred bodies ask for it. */
        private final int[] candidates = new int[MOST_CITIZENS];
        private final int[] candidateParties = new int[MOST_CITIZENS];
        private final int[] yes = new int[PARTIES * PARTIES];
        private int candidateCount;
        private long[] result = new long[IN_ALL + 1];
        private long[] scratch = new long[IN_ALL + 1];
        private Tally ahead = new Tally();
        private Tally behind = new Tally();
        private boolean isCounted;

        Odds(City city, Session session) {
            this.city = city;
            this.session = session;
            for (int n = 0; n < SIDE; n++) {
                sets[n * SIDE] = 1L;
                for (int k = 1; k <= n; k++) {
                    sets[n * SIDE + k] = sets[(n - 1) * SIDE + k - 1] + sets[(n - 1) * SIDE + k];
                }
            }
        }

        long answer(int c) {
            return isCounted && c >= 0 && c < result.length ? result[c] : NONE;
        }

        int reckon() {
            Plan plan = session.plan();
            int first = session.stepsDone();
            if (first >= plan.length()) {
                return NONE;
            }
            Arrays.fill(scratch, 0L);
            if (!countAllWays(plan, first)) {
                return SPENT;
            }
            lookAtCity();
            startFromBody();
            int size = session.bodySize();
            for (int i = first; i < plan.length(); i++) {
                if (!passStep(plan, i, size)) {
                    return SPENT;
                }
                size = plan.sizeOf(i);
            }
            // Only a count that came to its end may take the place of the latest one.
            long[] old = result;
            result = scratch;
            scratch = old;
            isCounted = true;
            return 0;
        }

        /** The ways in all, and those behind each step; false if they are too many. */
        private boolean countAllWays(Plan plan, int first) {
            long all = 1L;
            int size = session.bodySize();
            for (int i = first; i < plan.length(); i++) {
                long here = setsOfStep(plan, i, size);
                if (all < 1L || here > MOST_WAYS / all) {
                    return false;
                }
                all *= here;
                size = plan.sizeOf(i);
            }
            scratch[IN_ALL] = all;
            long rest = 1L;
            for (int i = Math.min(plan.length(), MOST_STEPS) - 1; i >= first && i >= 0; i--) {
                later[i] = rest;
                // Ahead of step i stands what the text left, but ahead of the first one the body as it is.
                rest *= setsOfStep(plan, i, i > first ? plan.sizeOf(i - 1) : session.bodySize());
            }
            return true;
        }

        private long setsOfStep(Plan plan, int i, int size) {
            boolean isDraw = plan.kindOf(i) == DRAW && plan.sizeOf(i) <= size;
            return isDraw ? setsOf(size, plan.sizeOf(i)) : 1L;
        }

        private long setsOf(int n, int k) {
            return n >= 0 && n < SIDE && k >= 0 && k <= n ? sets[n * SIDE + k] : 0L;
        }

        private void lookAtCity() {
            for (int at = 0; at < PARTIES * PARTIES; at++) {
                yes[at] = city.saysYes(at / PARTIES, at % PARTIES) ? 1 : 0;
            }
            candidateCount = 0;
            for (int c = 0; c < city.size() && candidateCount < MOST_CITIZENS; c++) {
                if (city.isThere(c)) {
                    candidates[candidateCount] = c;
                    candidateParties[candidateCount] = city.partyOf(c);
                    candidateCount++;
                }
            }
        }

        private void startFromBody() {
            Arrays.fill(gets, 0);
            int size = session.bodySize();
            for (int i = 0; i < size; i++) {
                countParty(city.partyOf(session.member(i)));
            }
            ahead.clear();
            ahead.add(keyOfGets(), 1L);
        }

        private void countParty(int party) {
            if (City.isParty(party)) {
                gets[party]++;
            }
        }

        private int keyOfGets() {
            return (gets[0] * SIDE + gets[1]) * SIDE + gets[2];
        }

        /** Tells from the key how many of each party a body of this size has. */
        private void spreadKey(int key, int size) {
            has[0] = key / (SIDE * SIDE);
            has[1] = key / SIDE % SIDE;
            has[2] = key % SIDE;
            has[3] = size - has[0] - has[1] - has[2];
        }

        /** Takes all bodies ahead of a step through it; false if too many unlike ones come out. */
        private boolean passStep(Plan plan, int i, int size) {
            behind.clear();
            for (int at = 0; at < ahead.length(); at++) {
                spreadKey(ahead.keyAt(at), size);
                if (!passBody(plan, i, size, ahead.waysAt(at))) {
                    return false;
                }
            }
            Tally old = ahead;
            ahead = behind;
            behind = old;
            return true;
        }

        private boolean passBody(Plan plan, int i, int size, long ways) {
            int n = plan.sizeOf(i);
            if (plan.kindOf(i) == DRAW) {
                if (n <= size) {
                    return drawSets(n, ways);
                }
                missStep(i, ways);
                return true;
            }
            findEnough(plan.votesOf(i));
            int last = chooseFirst(n);
            if (last < 0 || last >= MOST_CITIZENS) {
                missStep(i, ways);
                return true;
            }
            if (plan.kindOf(i) == ELECT) {
                scratch[last] += ways;
                return true;
            }
            return behind.add(keyOfGets(), ways);
        }

        /** These ways can't fill step i, whatever sets later draws would have had. */
        private void missStep(int i, long ways) {
            if (i >= 0 && i < MOST_STEPS) {
                scratch[UNFILLED] += ways * later[i];
            }
        }

        private boolean drawSets(int n, long ways) {
            // From the fewest that leave the other parties no more than they have: no product is made in vain.
            int rest = has[2] + has[3];
            for (int a = Math.max(0, n - has[1] - rest); a <= Math.min(has[0], n); a++) {
                long withA = ways * setsOf(has[0], a);
                for (int b = Math.max(0, n - a - rest); b <= Math.min(has[1], n - a); b++) {
                    long withB = withA * setsOf(has[1], b);
                    gets[0] = a;
                    gets[1] = b;
                    if (!drawLastTwo(n - a - b, withB)) {
                        return false;
                    }
                }
            }
            return true;
        }

        /** The rest of a set comes of the last two parties. */
        private boolean drawLastTwo(int n, long ways) {
            for (int c = Math.max(0, n - has[3]); c <= Math.min(has[2], n); c++) {
                gets[2] = c;
                if (!behind.add(keyOfGets(), ways * setsOf(has[2], c) * setsOf(has[3], n - c))) {
                    return false;
                }
            }
            return true;
        }

        private void findEnough(int needed) {
            for (int party = 0; party < PARTIES; party++) {
                int votes = 0;
                for (int voters = 0; voters < PARTIES; voters++) {
                    votes += yes[voters * PARTIES + party] * has[voters];
                }
                enough[party] = votes >= needed;
            }
        }

        /** The first n citizens with enough votes, counted by party: the last one of them; NONE: fewer are. */
        private int chooseFirst(int n) {
            Arrays.fill(gets, 0);
            int chosen = 0;
            for (int i = 0; i < candidateCount; i++) {
                int party = candidateParties[i];
                if (City.isParty(party) && enough[party]) {
                    gets[party]++;
                    chosen++;
                    if (chosen >= n) {
                        return candidates[i];
                    }
                }
            }
            return NONE;
        }
    }
}
