import java.io.IOException;
import java.math.BigInteger;

/** The third part of the document's terms: chances, ways, and when they are spent. */
public final class ChancesSentences extends Sentences {
    public static void main(String[] args) throws IOException {
        open(args);
        chances();
        ways();
        spent();
        close();
    }

    private static void chances() {
        part("==== III.", "WAYS:");
        sentence("CHANCES from the BODY as it is through all STEPS to come,", ChancesSentences::fromTheBodyAsItIs);
        sentence("of PARTIES alone: nobody is KIN,", ChancesSentences::nobodyIsKin);
        sentence("no HOUSE limits,", ChancesSentences::noHouseLimits);
        sentence("all who are there now:", ChancesSentences::whoAreThereNow);
        sentence("a DRAW takes each set of N as likely;", ChancesSentences::eachSetAsLikely);
        sentence("a CHOICE looks at how many of each PARTY the BODY has:", ChancesSentences::choiceByParties);
        sentence("votes for a CITIZEN are those whose PARTY says yes to his.", ChancesSentences::votesByParties);
    }

    private static void ways() {
        part("whose PARTY says yes to his. ", "SPENT:");
        sentence("WAYS: how many rows of sets drawn there are in all: the numbers of sets of all DRAWS to come",
                ChancesSentences::setsOfAllDraws);
        sentence("(by the BODY as it is, then by the text;", ChancesSentences::sizesByTheText);
        sentence("1 of a DRAW that can't FILL)", ChancesSentences::oneOfADrawThatCannotFill);
        sentence("one times the other;", ChancesSentences::oneTimesTheOther);
        sentence("those by which a CITIZEN is ELECTED;", ChancesSentences::waysOfEachCitizen);
        sentence("those by which some STEP can't FILL (whatever sets later DRAWS would have had).",
                ChancesSentences::waysThatCannotFill);
    }

    private static void spent() {
        part("(whatever sets later DRAWS would have had).", "## Promise 1:");
        sentence("SPENT: more than 1000000000000000 WAYS behind any STEP,", ChancesSentences::spentByWays);
        sentence("or more than 600 unlike BODIES", ChancesSentences::spentByBodies);
        sentence("(by how many of each PARTY they have,", ChancesSentences::unlikeByParties);
        sentence("of rows that could FILL so far)", ChancesSentences::rowsThatCouldFill);
        sentence("behind any STEP but the last one.", ChancesSentences::behindAnyStepButTheLast);
        sentence("The constants: `NONE = -1`: None.", () -> same("NONE", ElectionHouse.NONE, -1));
    }

    private static void counted(ElectionHouse x, String text) {
        take(x, text);
        same("counted: " + text, x.chances(), 0);
        long sum = 0;
        for (int c = 0; c <= 40; c++) {
            sum += x.ways(c);
        }
        same("each row elects one or can't fill: " + text, sum, x.ways(41));
    }

    private static void spent(ElectionHouse x, String text) {
        take(x, text);
        same("spent: " + text, x.chances(), -2);
    }

    // ---- chances

    private static void fromTheBodyAsItIs() {
        ElectionHouse x = ofParties(3, 2);
        counted(x, "draw 3;draw 1;elect by 1");
        // 10 sets of three, three of one: by a third of 30 for each one of three
        waysAre(x, 30, 0, 18, 0, 0, 12, 0);
        lots(x, 0, 2, 2, 2);
        steps(x, 0);
        bodyIs(x, 0, 3, 4);
        same("of the body behind the draw", x.chances(), 0);
        waysAre(x, 3, 0, 1, 0, 0, 2, 0);
        steps(x, 0);
        bodyIs(x, 4);
        same("of the body behind both draws", x.chances(), 0);
        waysAre(x, 1, 0, 0, 0, 0, 1, 0);
        x.protest(1);
        same("of the body as it is again", x.chances(), 0);
        waysAre(x, 3, 0, 1, 0, 0, 2, 0);
        x.protest(0);
        leave(x, 0);
        same("of those there", x.chances(), 0);
        waysAre(x, 12, 0, 0, 6, 0, 6, 0);
        ElectionHouse nobody = new ElectionHouse();
        counted(nobody, "draw 1;elect by 1");
        waysAre(nobody, 1, 1, 0);
    }

    private static void nobodyIsKin() {
        // All of one house, told besides, and each for himself: votes count by parties all the same.
        ElectionHouse x = city("00", "00", "00");
        x.kin(0, 1);
        x.kin(0, 2);
        x.kin(1, 2);
        counted(x, "draw 3;choose 3 by 3;elect by 3");
        waysAre(x, 1, 0, 1, 0, 0);
        ElectionHouse y = city("00");
        counted(y, "draw 1;elect by 1");
        waysAre(y, 1, 0, 1);
        lots(y, 0);
        steps(y, 0, 2);
    }

    private static void noHouseLimits() {
        ElectionHouse x = city("00", "00", "00", "10");
        counted(x, "draw 4;choose 3 by 1 house 1;elect by 1");
        waysAre(x, 1, 0, 1, 0, 0, 0);
        ElectionHouse y = city("00", "01", "02");
        y.says(0, 1, true);
        y.says(0, 2, true);
        counted(y, "draw 1;choose 3 by 1 house 1;draw 1;elect by 1");
        // 0 drawn: all three chosen; else but one can be
        waysAre(y, 9, 6, 1, 1, 1);
    }

    private static void whoAreThereNow() {
        ElectionHouse x = ofParties(3, 2);
        leave(x, 0, 3);
        counted(x, "draw 2;elect by 1");
        // Of 1 and 2 of party 0, and 4 of party 1
        waysAre(x, 3, 0, 0, 3, 0, 0, 0);
        lots(x, 2, 0);
        steps(x, 0);
        bodyIs(x, 4, 1);
        // He who left the body can't be elected, but the body still has him.
        leave(x, 1);
        come(x, 0);
        same("counted", x.chances(), 0);
        waysAre(x, 1, 0, 1, 0, 0, 0, 0);
        leave(x, 0, 2);
        same("counted", x.chances(), 0);
        waysAre(x, 1, 0, 0, 0, 0, 0, 1);
        leave(x, 4);
        same("nobody of his party is there", x.chances(), 0);
        waysAre(x, 1, 1, 0, 0, 0, 0, 0);
    }

    private static void eachSetAsLikely() {
        // 3 of party 0 and 2 of party 1: who has two of three drawn elects the first of its own.
        ElectionHouse x = ofParties(3, 2);
        counted(x, "draw 3;elect by 2");
        waysAre(x, 10, 0, 7, 0, 0, 3, 0);
        // Hypergeometric: k of 10 of each of two parties, 5 drawn of 20
        ElectionHouse y = ofParties(10, 10);
        counted(y, "draw 5;elect by 4");
        // C(10,4) * 10 + C(10,5) each; the rest fills for none
        waysAre(y, 15504, 15504 - 2 * 2352, 2352);
        same("the first of party 1", y.ways(10), 2352);
        // All say yes to party 0, which has but two; four fill where all drawn are of party 2 (1 set) or 3 (5 sets).
        ElectionHouse z = ofParties(2, 3, 4, 5);
        for (int p = 1; p < 4; p++) {
            z.says(p, 0, true);
        }
        counted(z, "draw 4;choose 4 by 4;elect by 1");
        same("in all", z.ways(41), 1001);
        same("can't fill", z.ways(40), 1001 - 1 - 5);
    }

    private static void choiceByParties() {
        // Of whichever two are drawn, the parties of the body tell who is chosen.
        ElectionHouse x = ofParties(2, 3);
        counted(x, "draw 2;choose 2 by 2;elect by 2");
        // Both of party 0: 1 set; both of party 1: 3 sets; else nobody has two votes
        waysAre(x, 10, 6, 1, 0, 3, 0, 0);
        // The body chosen counts by its own parties in the next step.
        ElectionHouse y = city("01", "10", "20", "31");
        y.says(0, 1, true);
        counted(y, "draw 1;choose 3 by 1;elect by 2");
        // Of party 0 drawn (2 sets): 0, 1, 2 are chosen, and both of party 0 say yes to 0; of party 1: 0 and 3 alone
        waysAre(y, 4, 2, 2, 0, 0, 0);
    }

    private static void votesByParties() {
        ElectionHouse x = city("00", "11", "22");
        counted(x, "draw 2;elect by 2");
        waysAre(x, 3, 3, 0, 0, 0);
        x.says(0, 1, true);
        same("counted", x.chances(), 0);
        // 0 and 1 drawn say yes to 1
        waysAre(x, 3, 2, 0, 1, 0);
        x.says(0, 2, true);
        same("counted", x.chances(), 0);
        waysAre(x, 3, 1, 0, 1, 1);
        x.says(1, 2, true);
        same("counted", x.chances(), 0);
        waysAre(x, 3, 0, 0, 1, 2);
        x.says(1, 0, true);
        same("he himself says yes as well", x.chances(), 0);
        waysAre(x, 3, 0, 1, 0, 2);
        x.turn(2, 0, 0);
        same("by the parties of now", x.chances(), 0);
        waysAre(x, 3, 0, 3, 0, 0);
    }

    // ---- ways

    private static void setsOfAllDraws() {
        for (int n = 1; n <= 20; n++) {
            ElectionHouse x = ofParties(20);
            counted(x, "draw " + n + ";elect by 1");
            same("sets of " + n + " of 20", x.ways(41), sets(20, n).longValueExact());
            same("all of them elect the first", x.ways(0), sets(20, n).longValueExact());
        }
        ElectionHouse x = ofParties(40);
        counted(x, "draw 20;elect by 1");
        same("sets of 20 of 40", x.ways(41), 137846528820L);
        counted(x, "draw 40;elect by 40");
        waysAre(x, 1, 0, 1);
    }

    private static void sizesByTheText() {
        ElectionHouse x = ofParties(7);
        counted(x, "draw 4;choose 6 by 1;draw 2;elect by 1");
        same("C(7, 4) * C(6, 2)", x.ways(41), 35 * 15);
        leave(x, 0);
        same("counted", x.chances(), 0);
        same("C(6, 4) * C(6, 2)", x.ways(41), 15 * 15);
        lots(x, 0, 0, 0, 0);
        steps(x, 0);
        same("counted", x.chances(), 0);
        same("C(6, 2) behind the first draw", x.ways(41), 15);
        // The choice can't fill: the draw behind it has its sets by the text.
        leave(x, 1);
        same("counted", x.chances(), 0);
        waysAre(x, 15, 15, 0);
    }

    private static void oneOfADrawThatCannotFill() {
        ElectionHouse x = ofParties(2);
        counted(x, "draw 6;draw 2;elect by 1");
        waysAre(x, 15, 15, 0, 0);
        counted(x, "draw 3;elect by 1");
        waysAre(x, 1, 1, 0, 0);
        counted(x, "draw 2;elect by 1");
        waysAre(x, 1, 0, 1, 0);
        // A body of those who left still fills the draw.
        lots(x, 0, 0);
        take(x, "draw 2;draw 1;elect by 1");
        steps(x, 0);
        leave(x, 0);
        same("counted", x.chances(), 0);
        waysAre(x, 2, 0, 0, 2);
    }

    private static void oneTimesTheOther() {
        ElectionHouse x = ofParties(6);
        counted(x, "draw 5;draw 4;draw 3;draw 2;draw 1;elect by 1");
        waysAre(x, 6 * 5 * 4 * 3 * 2, 0, 720);
        counted(x, "draw 1;choose 6 by 1;draw 1;choose 6 by 1;draw 1;elect by 1");
        waysAre(x, 216, 0, 216);
    }

    private static void waysOfEachCitizen() {
        ElectionHouse x = city("00", "11", "22", "33", "00", "11");
        counted(x, "draw 1;elect by 1");
        waysAre(x, 6, 0, 2, 2, 1, 1, 0, 0);
        counted(x, "draw 2;draw 1;elect by 1");
        waysAre(x, 30, 0, 10, 10, 5, 5, 0, 0);
        same("no citizen of this number has any", x.ways(6), 0);
        same("no citizen of this number has any", x.ways(39), 0);
        ElectionHouse y = full();
        counted(y, "draw 1;elect by 1");
        waysAre(y, 40, 0, 10, 10, 10, 10, 0);
        leave(y, 0, 1, 2, 3, 4, 5, 6, 7, 8, 9, 10, 11, 12, 13, 14, 15, 16, 17, 18, 19);
        leave(y, 20, 21, 22, 23, 24, 25, 26, 27, 28, 29, 30, 31, 32, 33, 34, 35, 36, 37, 38);
        same("counted", y.chances(), 0);
        same("the last one alone", y.ways(39), 1);
    }

    private static void waysThatCannotFill() {
        // C(5, 2) * C(3, 2) = 30 in all; both of party 1: 3 sets, and then 3 each of party 1
        ElectionHouse x = ofParties(2, 3);
        counted(x, "draw 2;choose 3 by 2;draw 2;elect by 2");
        waysAre(x, 30, 21, 0, 0, 9, 0, 0);
        // A choice behind which two draws would have come
        counted(x, "draw 2;choose 4 by 2;draw 3;draw 2;elect by 2");
        waysAre(x, 10 * 4 * 3, 10 * 4 * 3, 0, 0, 0, 0, 0);
        // An election that some sets can't fill
        counted(x, "draw 2;elect by 2");
        waysAre(x, 10, 6, 1, 0, 3, 0, 0);
        // Some can't fill the choice, and of the others some can't fill the election.
        ElectionHouse y = city("00", "01", "02");
        y.says(0, 1, true);
        counted(y, "draw 1;choose 2 by 1;draw 1;elect by 1");
        // 0 drawn: 0 and 1 chosen: of 0 drawn then 0 himself, of 1 drawn 1; the other two: one chosen alone
        waysAre(y, 6, 4, 1, 1, 0);
        y.says(1, 1, false);
        same("counted", y.chances(), 0);
        waysAre(y, 6, 5, 1, 0, 0);
    }

    // ---- spent

    private static void spentByWays() {
        ElectionHouse x = ofParties(40);
        // C(40, 20) * C(20, 10) and C(40, 20) * C(20, 5)
        spent(x, "draw 20;draw 10;elect by 1");
        spent(x, "draw 20;draw 5;elect by 1");
        same("none counted yet", x.ways(41), -1);
        counted(x, "draw 20;draw 17;elect by 1");
        same("C(40, 20) * C(20, 3)", x.ways(41), 137846528820L * 1140L);
        // Behind a step on the way it is as much as behind the last draw.
        spent(x, "draw 20;draw 10;draw 10;choose 3 by 1;elect by 1");
        // Products that wrap around in 64 bits
        spent(x, "draw 20;choose 40 by 1;draw 20;elect by 1");
        spent(x, "draw 20;choose 40 by 1;draw 20;choose 40 by 1;draw 20;elect by 1");
        spent(x, "draw 20" + ";choose 40 by 1;draw 20".repeat(5) + ";elect by 1");
        // Rows that can't fill count as well.
        leave(x, 0);
        spent(x, "draw 19;choose 40 by 1;draw 20;elect by 1");
        spent(x, "draw 40;draw 20;draw 10;elect by 1");
        counted(x, "draw 40;draw 20;elect by 1");
        closeToTheMostWays();
    }

    /** Of all rows of three draws the two that come closest to the bound from below and from above. */
    private static void closeToTheMostWays() {
        long most = 1000000000000000L;
        long below = 0;
        long above = Long.MAX_VALUE;
        String textBelow = "";
        String textAbove = "";
        for (int i = 0; i < 40 * 40 * 40; i++) {
            int a = i / 1600 + 1;
            int b = i / 40 % 40 + 1;
            int c = i % 40 + 1;
            BigInteger ways = sets(40, a).multiply(sets(a, b)).multiply(sets(b, c));
            if (b > a || c > b || ways.bitLength() > 60) {
                continue;
            }
            String text = "draw " + a + ";draw " + b + ";draw " + c + ";elect by 1";
            long n = ways.longValueExact();
            if (n <= most && n > below) {
                below = n;
                textBelow = text;
            }
            if (n > most && n < above) {
                above = n;
                textAbove = text;
            }
        }
        same("close enough", below > most / 20 * 19 && above < most / 20 * 21, true);
        ElectionHouse x = ofParties(40);
        counted(x, textBelow);
        same("in all", x.ways(41), below);
        same("all of the first", x.ways(0), below);
        spent(x, textAbove);
        same("in all, as before", x.ways(41), below);
    }

    private static BigInteger sets(int n, int k) {
        BigInteger c = BigInteger.ONE;
        for (int i = 0; i < k; i++) {
            c = c.multiply(BigInteger.valueOf(n - i)).divide(BigInteger.valueOf(i + 1));
        }
        return c;
    }

    private static void spentByBodies() {
        int counted = 0;
        int spent = 0;
        for (int i = 0; i < 12 * 12 * 12 * 40; i++) {
            int a = i / 40 / 144 + 1;
            int b = i / 40 / 12 % 12 + 1;
            int c = i / 40 % 12 + 1;
            int d = 40 - a - b - c;
            int bodies = unlike(a, b, c, d, i % 40 + 1);
            if (bodies == 600 && counted < 6 || bodies == 601 && spent < 6) {
                ElectionHouse x = ofParties(a, b, c, d);
                take(x, "draw " + (i % 40 + 1) + ";elect by 1");
                same("unlike bodies " + bodies, x.chances(), bodies == 600 ? 0 : -2);
                take(x, "draw 39;draw " + (i % 40 + 1) + ";elect by 1");
                same("unlike bodies behind a second draw " + bodies, x.chances(), bodies == 600 ? 0 : -2);
                counted += bodies == 600 ? 1 : 0;
                spent += bodies == 601 ? 1 : 0;
            }
        }
        same("both sides of the bound were tried", counted > 0 && spent > 0, true);
        // A count that was spent leaves nothing to the next one.
        ElectionHouse x = full();
        spent(x, "draw 18;elect by 1");
        counted(x, "draw 1;elect by 1");
        waysAre(x, 40, 0, 10, 10, 10, 10);
        spent(x, "draw 39;draw 18;elect by 1");
        counted(x, "draw 2;draw 1;elect by 1");
        waysAre(x, 1560, 0, 390, 390, 390, 390);
    }

    private static int unlike(int a, int b, int c, int d, int n) {
        int count = 0;
        for (int i = 0; i <= a; i++) {
            for (int j = 0; j <= b; j++) {
                for (int k = 0; k <= c; k++) {
                    int l = n - i - j - k;
                    count += l >= 0 && l <= d ? 1 : 0;
                }
            }
        }
        return count;
    }

    private static void unlikeByParties() {
        // Two parties of 20 each: the same numbers of each party are one body, however many sets they are.
        ElectionHouse x = ofParties(20, 20);
        counted(x, "draw 20;elect by 10");
        same("in all", x.ways(41), 137846528820L);
        // Ten or more of party 0: half of all, and half of the ten-ten sets besides
        long even = sets(20, 10).pow(2).longValueExact();
        same("the first of party 0", x.ways(0), (137846528820L + even) / 2);
        same("the first of party 1", x.ways(20), (137846528820L - even) / 2);
        // Likewise where they come of unlike bodies: 10, 35 and 84 of them here, and a thousand rows of such.
        ElectionHouse y = ofParties(10, 10, 10, 10);
        counted(y, "draw 38;draw 36;draw 34;elect by 10");
        same("in all", y.ways(41), 780L * 703 * 630);
        // Every set of 34 comes as often; of party 0 all ten are in as many as leave six of the other thirty out.
        long often = 780L * 703 * 630 / sets(40, 6).longValueExact();
        same("the first of party 0", y.ways(0), sets(30, 6).longValueExact() * often);
        manyCounts();
    }

    /** One object counts through more than a thousand bodies of all sizes, each time anew. */
    private static void manyCounts() {
        ElectionHouse x = full();
        for (int n = 1; n <= 39; n = n == 14 ? 26 : n + 1) {
            take(x, "draw 39;draw " + n + ";elect by 1");
            same("draw " + n, x.chances(), 0);
            // Each set of n comes of 40 - n sets of 39.
            same("in all", x.ways(41), sets(40, n).longValueExact() * (40 - n));
            long withoutFirst = sets(30, n).longValueExact() * (40 - n);
            same("the first of party 0", x.ways(0), x.ways(41) - withoutFirst);
            same("the first of party 1", x.ways(1), withoutFirst - sets(20, n).longValueExact() * (40 - n));
        }
    }

    private static void rowsThatCouldFill() {
        // Behind a first draw that can't fill there are no bodies, so none that a draw of 18 would make.
        ElectionHouse x = full();
        leave(x, 0);
        counted(x, "draw 40;draw 18;elect by 1");
        same("none fills", x.ways(40), x.ways(41));
        same("in all", x.ways(41), sets(40, 18).longValueExact());
        // Likewise behind a choice that nobody's rows fill
        counted(x, "draw 1;choose 40 by 1;draw 18;elect by 1");
        same("none fills", x.ways(40), x.ways(41));
        same("in all", x.ways(41), sets(40, 18).longValueExact() * 39);
        come(x, 0);
        for (int party = 0; party < 4; party++) {
            x.says(0, party, true);
        }
        // Where party 0 is drawn, all are chosen: more than 600 bodies behind the second draw.
        spent(x, "draw 1;choose 40 by 1;draw 18;elect by 1");
    }

    private static void behindAnyStepButTheLast() {
        // Spent behind the first draw, though behind the next step there are four bodies.
        ElectionHouse x = full();
        spent(x, "draw 18;draw 1;elect by 1");
        spent(x, "draw 18;choose 5 by 1;elect by 1");
        spent(x, "draw 30;draw 22;elect by 1");
        counted(x, "draw 11;elect by 1");
        same("in all", x.ways(41), 2311801440L);
        // Of a step that is done nothing is counted: the body as it is is one.
        take(x, "draw 18;elect by 1");
        lots(x, new int[18]);
        steps(x, 0);
        same("counted", x.chances(), 0);
        same("one way", x.ways(41), 1);
    }
}
