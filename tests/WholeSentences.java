import java.io.IOException;
import java.lang.reflect.Method;
import java.lang.reflect.Modifier;
import java.util.Random;

/** What stands ahead of the document's terms and behind its promises: what it is, the face, what is not promised. */
public final class WholeSentences extends Sentences {
    private static final int LOTS = 10000;

    public static void main(String[] args) throws IOException {
        open(args);
        whatItIs();
        face();
        notPromised();
        close();
    }

    private static void whatItIs() {
        part("## What it is", "==== I.");
        sentence("A city that picks its head by lots and votes in turn:", WholeSentences::lotsAndVotesInTurn);
        sentence("citizens of houses and parties, some of them kin,", WholeSentences::housesPartiesKin);
        sentence("a procedure told as a text that is taken only if its numbers can be met,",
                WholeSentences::takenIfNumbersCanBeMet);
        sentence("lots that are drawn so that each is as likely,", WholeSentences::eachIsAsLikely);
        sentence("bodies that choose the next one by so many votes,", WholeSentences::bodiesChooseTheNext);
        sentence("steps undone by protest;", WholeSentences::undoneByProtest);
        sentence("and the chances that each citizen has to be picked, counted exactly over all lots.",
                WholeSentences::chancesOverAllLots);
    }

    private static void face() {
        part("## The public face", "## Terms");
        sentence("public final class ElectionHouse {",
                () -> same("kind", ElectionHouse.class.getModifiers(), Modifier.PUBLIC | Modifier.FINAL));
        sentence("public static final int NONE = -1;", WholeSentences::constant);
        sentence("public ElectionHouse();",
                () -> same("constructors", ElectionHouse.class.getConstructors().length, 1));
        for (String line : new String[] {
                "public int citizen(int house, int party);", "public boolean there(int citizen, boolean is);",
                "public boolean kin(int a, int b);", "public boolean says(int voters, int party, boolean yes);",
                "public boolean turn(int citizen, int house, int party);",
                "public int feed(int a, int b, int c, int d, int e);", "public int end(int n);",
                "public int procedure();", "public int lot(int v);", "public int step();",
                "public boolean protest(int k);", "public int body(int k);", "public int ballot(int what);",
                "public int elected();", "public int chances();", "public long ways(int c);",
                "public int about(int citizen, int what);", "public int count(int what);"}) {
            sentence(line, () -> same("methods", methodsLike(line), 1));
        }
    }

    private static void notPromised() {
        part("## Not promised", "");
        sentence("How the state is held inside the object is free, as are the speed of each call, the text of toString "
                + "and the behaviour of equals and hashCode.", WholeSentences::noneOfItsOwn);
        sentence("Use of one object from several threads at once is not promised to be safe.",
                WholeSentences::objectsInSeveralThreads);
        sentence("Nothing is promised beyond the answers and state changes described above,",
                WholeSentences::askingChangesNothing);
        sentence("and nothing about an object after its 512th call.", WholeSentences::manyCallsEnd);
    }

    // ---- what it is

    /** Six of as many houses, of parties 0, 1, 2 in turn; 0 is for 1, 1 for 2, 2 for 0, none for its own. */
    private static ElectionHouse ring() {
        ElectionHouse x = city("00", "11", "22", "30", "41", "52");
        for (int party = 0; party < 3; party++) {
            x.says(party, party, false);
            x.says(party, (party + 1) % 3, true);
        }
        return x;
    }

    private static void lotsAndVotesInTurn() {
        ElectionHouse x = ring();
        same("taken", take(x, "draw 3;choose 4 by 1;draw 2;elect by 2"), 4);
        lots(x, 5, 1, 0, 3, 2);
        steps(x, 0);
        bodyIs(x, 5, 1, 0);
        // One of each party, so that each party's citizens have one vote.
        steps(x, 0);
        bodyIs(x, 0, 1, 2, 3);
        steps(x, 0);
        bodyIs(x, 3, 2);
        // 3 is for party 1, 2 for party 0: nobody has two votes.
        steps(x, 2);
        same("nobody", x.elected(), -1);
        lots(x, 3, 0);
        x.protest(2);
        steps(x, 0);
        bodyIs(x, 3, 0);
        steps(x, 0, 3);
        same("head", x.elected(), 1);
    }

    private static void housesPartiesKin() {
        ElectionHouse x = city("00", "01", "12", "b3");
        same("kin by house", x.about(0, 3), 1);
        same("told", x.kin(0, 3), true);
        same("kin by house and told", x.about(0, 3), 2);
        same("kin of the one told", x.about(3, 3), 1);
        same("no kin", x.about(2, 3), 0);
        same("house", x.about(3, 0), 11);
        same("party", x.about(3, 1), 3);
    }

    private static void takenIfNumbersCanBeMet() {
        for (int first = 1; first <= 40; first++) {
            for (int next = 1; next <= 41; next++) {
                ElectionHouse x = new ElectionHouse();
                String text = "draw " + first + ";draw " + next + ";elect by 1";
                int place = text.indexOf("draw " + next, 6) + 5;
                int due = next > 40 ? fault(place, 1) : next > first ? fault(place, 3) : 3;
                same(text, take(x, text), due);
                same("steps", x.count(3), Math.max(due, 0));
            }
        }
    }

    private static void eachIsAsLikely() {
        for (int size = 1; size <= 40; size++) {
            int[] drawn = new int[size];
            int passed = 0;
            for (int v = 0; v < LOTS; v += 100) {
                passed += drawHundred(size, v, drawn);
            }
            for (int c = 0; c < size; c++) {
                same("times that " + c + " of " + size + " is drawn", drawn[c], LOTS / size);
            }
            same("passed over of " + size, passed, LOTS % size);
        }
    }

    /** Each of a hundred lots on its own draws one of so many: how many of them draw nobody. */
    private static int drawHundred(int size, int first, int[] drawn) {
        ElectionHouse x = ofParties(size);
        take(x, "draw 1;elect by 1");
        int passed = 0;
        for (int v = first; v < first + 100; v++) {
            x.lot(v);
            if (x.step() == 0) {
                drawn[x.body(0)]++;
                x.protest(0);
            } else {
                passed++;
            }
        }
        return passed;
    }

    private static void bodiesChooseTheNext() {
        ElectionHouse x = ring();
        take(x, "draw 1;choose 2 by 1;choose 2 by 2;choose 1 by 1;elect by 1");
        lots(x, 0);
        steps(x, 0);
        int[][] bodies = {{0}, {1, 4}, {2, 5}, {0}};
        for (int i = 0; i < bodies.length; i++) {
            same("done", x.count(4), i + 1);
            bodyIs(x, bodies[i]);
            steps(x, 0);
        }
        bodyIs(x, 0);
        same("head", x.elected(), 1);
    }

    private static void undoneByProtest() {
        ElectionHouse x = ring();
        take(x, "draw 1;choose 2 by 1;choose 2 by 2;choose 1 by 1;elect by 1");
        int[][] ahead = {{0, 1, 2, 3, 4, 5}, {0}, {1, 4}, {2, 5}, {0}};
        for (int k = 0; k < 5; k++) {
            lots(x, 0);
            while (x.count(4) < 5) {
                steps(x, 0);
            }
            same("not against a step behind the last", x.protest(5), false);
            same("against " + k, x.protest(k), true);
            same("done", x.count(4), k);
            same("nobody is elected", x.elected(), -1);
            bodyIs(x, ahead[k]);
            same("not twice", x.protest(k), false);
        }
    }

    /**
     * Where nobody is kin, no house limits and no party is for its own, what chances tells must be what comes out
     * if every row of lots is drawn: a set of n comes in as many rows as it has orders.
     */
    private static void chancesOverAllLots() {
        overAllLots("draw 2;elect by 1", 6 * 5, 2);
        overAllLots("draw 3;elect by 2", 6 * 5 * 4, 6);
        overAllLots("draw 3;draw 2;elect by 2", 6 * 5 * 4 * 3 * 2, 12);
        overAllLots("draw 3;choose 4 by 1;draw 2;elect by 2", 6 * 5 * 4 * 4 * 3, 12);
        overAllLots("draw 2;choose 3 by 1 house 9;draw 2;draw 1;elect by 1", 6 * 5 * 3 * 2 * 2, 4);
        overAllLots("draw 2;choose 3 by 2;draw 1;elect by 1", 6 * 5 * 3, 2);
    }

    private static void overAllLots(String text, int rows, int orders) {
        long[] times = new long[41];
        for (int row = 0; row < rows; row++) {
            times[lastOf(text, row)] += 1;
        }
        ElectionHouse x = ring();
        take(x, text);
        same("counted: " + text, x.chances(), 0);
        same("in all: " + text, x.ways(41) * orders, rows);
        for (int c = 0; c <= 40; c++) {
            same("ways of " + c + ": " + text, x.ways(c) * orders, times[c]);
        }
    }

    /** Who is elected by one of all rows of lots; 40 if some step can't fill. */
    private static int lastOf(String text, int row) {
        ElectionHouse x = ring();
        take(x, text);
        int rest = row;
        String[] told = text.split(";");
        for (String step : told) {
            int size = x.count(5);
            int n = step.startsWith("draw") ? Integer.parseInt(step.substring(5)) : 0;
            for (int left = size; left > size - n; left--) {
                x.lot(rest % left);
                rest /= left;
            }
            if (x.step() != 0) {
                return 40;
            }
        }
        return x.elected();
    }

    // ---- the face

    private static void constant() {
        try {
            java.lang.reflect.Field none = ElectionHouse.class.getField("NONE");
            same("kind", none.getModifiers(), Modifier.PUBLIC | Modifier.STATIC | Modifier.FINAL);
            same("type", none.getType() == int.class, true);
            same("value", none.getInt(null), -1);
        } catch (ReflectiveOperationException e) {
            same("there is NONE: " + e, false, true);
        }
    }

    /** How many public methods there are that bear a line of the face. */
    private static int methodsLike(String line) {
        String due = line.replaceAll(" \\w+([,)])", "$1");
        int n = 0;
        for (Method m : ElectionHouse.class.getDeclaredMethods()) {
            StringBuilder s = new StringBuilder("public " + m.getReturnType() + " " + m.getName() + "(");
            for (int i = 0; i < m.getParameterCount(); i++) {
                s.append(i > 0 ? ", " : "").append(m.getParameterTypes()[i]);
            }
            n += m.getModifiers() == Modifier.PUBLIC && s.append(");").toString().equals(due) ? 1 : 0;
        }
        return n;
    }

    // ---- not promised

    private static void noneOfItsOwn() {
        for (Method m : ElectionHouse.class.getDeclaredMethods()) {
            boolean isOwn = m.getName().matches("toString|equals|hashCode");
            same("no " + m.getName() + " of its own", isOwn, false);
        }
    }

    /** One object is used by one thread; several objects in as many threads share nothing. */
    private static void objectsInSeveralThreads() {
        long[] answers = new long[8];
        Thread[] threads = new Thread[answers.length];
        for (int i = 0; i < threads.length; i++) {
            int at = i;
            threads[i] = new Thread(() -> answers[at] = manyAnswers());
            threads[i].start();
        }
        for (Thread t : threads) {
            try {
                t.join();
            } catch (InterruptedException e) {
                same("waited for", false, true);
            }
        }
        long due = manyAnswers();
        for (long got : answers) {
            same("answers of a thread", got, due);
        }
    }

    private static long manyAnswers() {
        long mixed = 0;
        for (int seed = 0; seed < 300; seed++) {
            ElectionHouse x = full();
            take(x, "draw 9;choose 7 by 1 house 1;draw 5;elect by 1");
            Random lots = new Random(seed);
            for (int i = 0; i < 30; i++) {
                x.lot(lots.nextInt(LOTS));
            }
            for (int i = 0; i < 4; i++) {
                mixed = mixed * 31 + x.step() + x.chances();
                mixed = mixed * 31 + x.ways(0) + x.body(0);
            }
            mixed = mixed * 31 + x.elected();
        }
        return mixed;
    }

    private static void askingChangesNothing() {
        ElectionHouse x = ring();
        take(x, "draw 3;choose 4 by 1 house 1;draw 2;elect by 2");
        feed(x, "draw");
        lots(x, 5, 1, 0, 3, 2);
        x.chances();
        for (int done = 0; done < 4; done++) {
            String before = asked(x);
            same("steps done", x.count(4), done);
            same("asked again behind step " + done, asked(x).equals(before), true);
            x.step();
        }
    }

    /** The asking calls of each kind, with numbers that name nothing among them. */
    private static String asked(ElectionHouse x) {
        StringBuilder s = new StringBuilder();
        for (int k = -1; k <= 6; k++) {
            s.append(x.body(k)).append(' ').append(x.ballot(k)).append(' ').append(x.ballot(100 + k)).append(' ');
            s.append(x.ways(k)).append(' ').append(x.about(k, 3)).append(' ');
        }
        for (int what = -1; what <= 9; what++) {
            s.append(x.count(what)).append(' ');
        }
        return s.append(x.ways(41)).append(' ').append(x.elected()).toString();
    }

    /** What they answer is free, but LANGUAGE.md wants each to end without an exception. */
    private static void manyCallsEnd() {
        ElectionHouse x = full();
        Random random = new Random(1);
        take(x, "draw 9;choose 7 by 1 house 1;draw 5;elect by 1");
        int calls = 0;
        for (int i = 0; i < 5000; i++) {
            anyCalls(x, anyNumber(random), anyNumber(random), anyNumber(random), random.nextBoolean());
            calls++;
        }
        same("rounds of calls", calls, 5000);
    }

    private static int anyNumber(Random random) {
        int[] odd = {Integer.MIN_VALUE, Integer.MAX_VALUE, -1, 40, 41, 99, 139, 140, 300, 10000};
        int pick = random.nextInt(20);
        return pick < odd.length ? odd[pick] : pick < 18 ? random.nextInt(12) : random.nextInt();
    }

    private static void anyCalls(ElectionHouse x, int a, int b, int c, boolean is) {
        x.citizen(a, b);
        x.there(a, is);
        x.kin(a, b);
        x.says(a, b, is);
        x.turn(a, b, c);
        x.feed(0x64726177, 0x20313b65, 0x6c656374, 0x20627920, is ? 0x31202020 : a);
        x.end(is ? 20 : a);
        x.procedure();
        x.lot(a);
        x.step();
        x.lot(b);
        x.step();
        x.protest(c);
        x.body(a);
        x.ballot(a);
        x.elected();
        x.chances();
        x.ways(a);
        x.about(a, b);
        x.count(a);
    }
}
