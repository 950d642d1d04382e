import java.io.IOException;

/** The promises 1 to 19, each sentence of each of them. */
public final class PromiseSentences extends Sentences {
    private static final int LOW = Integer.MIN_VALUE;
    private static final int HIGH = Integer.MAX_VALUE;

    public static void main(String[] args) throws IOException {
        open(args);
        promises1To6();
        promises7To9();
        promises10To15();
        promises16And17();
        promises18And19();
        close();
    }

    private static void promises1To6() {
        part("## Promise 1: A new object", "## Promise 2:");
        sentence("No CITIZENS,", PromiseSentences::newWithoutCitizens);
        sentence("no PROCEDURE.", PromiseSentences::newWithoutProcedure);
        part("## Promise 2: citizen", "## Promise 3:");
        sentence("A CITIZEN comes: the number;", PromiseSentences::citizenComes);
        sentence("NONE: there are 40,", PromiseSentences::citizenOfForty);
        sentence("no such HOUSE or PARTY,", PromiseSentences::citizenOfNoHouse);
        sentence("or a STEP was done (and not undone).", PromiseSentences::citizenBehindAStep);
        part("## Promise 3: there", "## Promise 4:");
        sentence("A CITIZEN is there or not: whether that changed anything.", PromiseSentences::thereChanges);
        sentence("False without him.", PromiseSentences::thereWithoutHim);
        sentence("(Before any STEP is done BODY goes by it.)", PromiseSentences::thereAndBody);
        part("## Promise 4: kin", "## Promise 5:");
        sentence("Two CITIZENS are KIN: true;", PromiseSentences::kinTold);
        sentence("false, and nothing happens: none such,", PromiseSentences::kinOfNobody);
        sentence("both one,", PromiseSentences::kinOfHimself);
        sentence("KIN already (told),", PromiseSentences::kinAlready);
        sentence("or 60 pairs.", PromiseSentences::kinBeyondSixty);
        part("## Promise 5: says", "## Promise 6:");
        sentence("Whether voters of a PARTY say yes to CITIZENS of another one (or its own): whether that changed anything.",
                PromiseSentences::saysChanges);
        sentence("False without these.", PromiseSentences::saysWithoutThese);
        part("## Promise 6: turn", "## Promise 7:");
        sentence("A CITIZEN turns to another HOUSE and PARTY: true;", PromiseSentences::turns);
        sentence("false, and nothing happens, for others.", PromiseSentences::turnsNot);
    }

    private static void promises7To9() {
        part("## Promise 7: feed", "## Promise 8:");
        sentence("Twenty bytes come behind the TAPE,", PromiseSentences::feedComesBehind);
        sentence("of each number the highest first:", PromiseSentences::feedHighestFirst);
        sentence("how many it has;", PromiseSentences::feedTells);
        sentence("NONE, and none comes: it would have more than 300.", PromiseSentences::feedBeyond);
        part("## Promise 8: end", "## Promise 9:");
        sentence("The TAPE has its first n bytes alone: n;", PromiseSentences::endCuts);
        sentence("NONE, and nothing happens, if it has not so many,", PromiseSentences::endBeyond);
        sentence("or n is below 0.", PromiseSentences::endBelow);
        part("## Promise 9: procedure", "## Promise 10:");
        sentence("The TAPE, which is empty then, is the PROCEDURE", PromiseSentences::procedureEmptiesTape);
        sentence("(a SESSION begins):", PromiseSentences::procedureBeginsSession);
        sentence("how many STEPS;", PromiseSentences::procedureTellsSteps);
        sentence("-2 - its FAULT", PromiseSentences::procedureTellsFault);
        sentence("(then the one ahead, and its SESSION, stay).", PromiseSentences::procedureStays);
    }

    private static void promises10To15() {
        part("## Promise 10: lot", "## Promise 11:");
        sentence("A LOT is told: how many wait;", PromiseSentences::lotTold);
        sentence("NONE, and nothing happens: 500 wait,", PromiseSentences::lotBeyond);
        sentence("or it is not 0 to 9999.", PromiseSentences::lotOfNoValue);
        part("## Promise 11: step", "## Promise 12:");
        sentence("The next STEP is done: 0 to 3.", PromiseSentences::stepTells);
        part("## Promise 12: protest", "## Promise 13:");
        sentence("A PROTEST against STEP k (0 the first): true;", PromiseSentences::protestTold);
        sentence("false, and nothing happens: it is not done.", PromiseSentences::protestOfNotDone);
        part("## Promise 13: body", "## Promise 14:");
        sentence("The k-th of the BODY;", PromiseSentences::bodyAt);
        sentence("NONE.", PromiseSentences::bodyBeyond);
        part("## Promise 14: ballot", "## Promise 15:");
        sentence("Of the latest CHOICE or election that was tried (also one that can't FILL),",
                PromiseSentences::ballotOfTheLatest);
        sentence("what 0: who was BARRED by house, 1: voted on, 2: chosen or ELECTED (how many);",
                PromiseSentences::ballotCounts);
        sentence("100 + c: votes for CITIZEN c (NONE: not voted on).", PromiseSentences::ballotVotes);
        sentence("NONE ahead of any,", PromiseSentences::ballotAheadOfAny);
        sentence("or for another what.", PromiseSentences::ballotOfAnother);
        part("## Promise 15: elected", "## Promise 16:");
        sentence("Who is ELECTED;", PromiseSentences::electedOne);
        sentence("NONE: nobody is yet.", PromiseSentences::electedNobody);
    }

    private static void promises16And17() {
        part("## Promise 16: chances", "## Promise 17:");
        sentence("CHANCES are counted: 0;", PromiseSentences::chancesCounted);
        sentence("-2 SPENT;", PromiseSentences::chancesSpent);
        sentence("NONE: no PROCEDURE,", PromiseSentences::chancesWithoutProcedure);
        sentence("or all STEPS are done.", PromiseSentences::chancesOfNoStep);
        part("## Promise 17: ways", "## Promise 18:");
        sentence("WAYS of the latest chances() that was 0:", PromiseSentences::waysOfTheLatest);
        sentence("of CITIZEN c to be ELECTED; 40: that can't FILL; 41: in all.", PromiseSentences::waysByNumber);
        sentence("NONE ahead of any,", PromiseSentences::waysAheadOfAny);
        sentence("or for another number.", PromiseSentences::waysOfAnother);
    }

    private static void promises18And19() {
        part("## Promise 18: about", "## Promise 19:");
        sentence("Of a CITIZEN what 0: HOUSE, 1: PARTY,", PromiseSentences::aboutHouseAndParty);
        sentence("2: 1 if there, else 0,", PromiseSentences::aboutThere);
        sentence("3: with how many others (there or not) he is KIN.", PromiseSentences::aboutKin);
        sentence("NONE without him,", PromiseSentences::aboutNobody);
        sentence("or for another what.", PromiseSentences::aboutAnother);
        part("## Promise 19: count", "## Not promised");
        sentence("What 0: CITIZENS,", PromiseSentences::countCitizens);
        sentence("1: those there,", PromiseSentences::countThere);
        sentence("2: pairs of KIN told,", PromiseSentences::countPairs);
        sentence("3: STEPS of the PROCEDURE,", PromiseSentences::countSteps);
        sentence("4: done,", PromiseSentences::countDone);
        sentence("5: of the BODY,", PromiseSentences::countBody);
        sentence("6: LOTS that wait, 7: used or passed over in all,", PromiseSentences::countLots);
        sentence("8: bytes of the TAPE.", PromiseSentences::countBytes);
        sentence("NONE for others.", PromiseSentences::countOthers);
    }

    /** Four citizens of four houses and one party, with a procedure of two draws, a choice and an election. */
    private static ElectionHouse four() {
        ElectionHouse x = city("00", "10", "20", "30");
        take(x, "draw 3;draw 2;choose 3 by 1;elect by 2");
        return x;
    }

    // ---- promise 1

    private static void newWithoutCitizens() {
        ElectionHouse x = new ElectionHouse();
        for (int what = 0; what <= 8; what++) {
            same("count " + what, x.count(what), 0);
        }
        same("body", x.body(0), -1);
        same("about", x.about(0, 0), -1);
        same("there", x.there(0, false), false);
        same("kin", x.kin(0, 1), false);
        same("turn", x.turn(0, 0, 0), false);
        // Two objects know nothing of one another.
        ElectionHouse y = full();
        x.lot(5);
        same("of another object", x.count(0), 0);
        same("of another object", y.count(6), 0);
    }

    private static void newWithoutProcedure() {
        ElectionHouse x = new ElectionHouse();
        same("steps", x.count(3), 0);
        same("step", x.step(), 3);
        same("chances", x.chances(), -1);
        same("protest", x.protest(0), false);
        same("elected", x.elected(), -1);
        same("ballot", x.ballot(0), -1);
        same("ways", x.ways(41), -1);
        same("an empty tape", x.end(0), 0);
    }

    // ---- promise 2

    private static void citizenComes() {
        ElectionHouse x = new ElectionHouse();
        same("the first", x.citizen(3, 2), 0);
        same("the second", x.citizen(4, 1), 1);
        same("house", x.about(1, 0), 4);
        same("party", x.about(1, 1), 1);
        take(x, "draw 1;elect by 1");
        same("behind the procedure", x.citizen(3, 2), 2);
        bodyIs(x, 0, 1, 2);
        x.there(2, false);
        same("behind one who left", x.citizen(3, 2), 3);
    }

    private static void citizenOfForty() {
        ElectionHouse x = ofParties(39);
        same("the 40th", x.citizen(11, 3), 39);
        same("the 41st", x.citizen(0, 0), -1);
        x.there(0, false);
        same("one who left makes no room", x.citizen(0, 0), -1);
        same("40", x.count(0), 40);
    }

    private static void citizenOfNoHouse() {
        ElectionHouse x = new ElectionHouse();
        for (int wrong : new int[] {-1, LOW, HIGH}) {
            same("no house", x.citizen(wrong, 0), -1);
            same("no party", x.citizen(0, wrong), -1);
            same("neither", x.citizen(wrong, wrong), -1);
        }
        same("house 12", x.citizen(12, 0), -1);
        same("party 4", x.citizen(0, 4), -1);
        same("nobody came", x.count(0), 0);
    }

    private static void citizenBehindAStep() {
        ElectionHouse x = four();
        lots(x, 0, 0);
        steps(x, 1);
        same("none was done", x.citizen(4, 0), 4);
        lots(x, 0, 0, 0, 0, 0, 0);
        steps(x, 0);
        same("one is done", x.citizen(5, 0), -1);
        steps(x, 0);
        x.protest(1);
        same("one is done still", x.citizen(5, 0), -1);
        same("nobody came", x.count(0), 5);
        x.protest(0);
        same("undone", x.citizen(5, 0), 5);
        bodyIs(x, 0, 1, 2, 3, 4, 5);
        steps(x, 0);
        take(x, "draw");
        same("the session stays", x.citizen(6, 0), -1);
        take(x, "draw 1;elect by 1");
        same("a new session", x.citizen(6, 0), 6);
        lots(x, 0);
        steps(x, 0, 0);
        same("all steps are done", x.citizen(7, 0), -1);
    }

    // ---- promise 3

    private static void thereChanges() {
        ElectionHouse x = city("00", "10");
        same("is there", x.there(1, true), false);
        same("leaves", x.there(1, false), true);
        same("left already", x.there(1, false), false);
        same("comes", x.there(1, true), true);
        same("came already", x.there(1, true), false);
        same("nobody else", x.about(0, 2), 1);
    }

    private static void thereWithoutHim() {
        ElectionHouse x = city("00", "10");
        for (int c : new int[] {2, 39, 40, -1, LOW, HIGH}) {
            same("nobody leaves", x.there(c, false), false);
            same("nobody comes", x.there(c, true), false);
        }
        same("two are there", x.count(1), 2);
        // He who comes later is there, whatever was told of his number.
        same("comes", x.citizen(2, 0), 2);
        same("is there", x.about(2, 2), 1);
    }

    private static void thereAndBody() {
        ElectionHouse x = city("00", "10", "20", "30");
        leave(x, 1);
        bodyIs(x, 0, 2, 3);
        take(x, "draw 2;elect by 1");
        leave(x, 0);
        bodyIs(x, 2, 3);
        come(x, 1);
        bodyIs(x, 1, 2, 3);
        lots(x, 0, 0);
        steps(x, 0);
        bodyIs(x, 1, 2);
        leave(x, 2);
        come(x, 0);
        bodyIs(x, 1, 2);
        x.protest(0);
        bodyIs(x, 0, 1, 3);
        come(x, 2);
        bodyIs(x, 0, 1, 2, 3);
    }

    // ---- promise 4

    private static void kinTold() {
        ElectionHouse x = city("00", "10", "20", "00");
        same("told", x.kin(0, 1), true);
        same("told", x.kin(2, 0), true);
        same("of one house, told besides", x.kin(0, 3), true);
        same("pairs", x.count(2), 3);
        same("kin of 0", x.about(0, 3), 3);
        same("kin of 1", x.about(1, 3), 1);
        same("kin of 2", x.about(2, 3), 1);
        same("kin of 3", x.about(3, 3), 1);
    }

    private static void kinOfNobody() {
        ElectionHouse x = city("00", "10");
        for (int c : new int[] {2, 39, 40, 64, -1, LOW, HIGH}) {
            same("with nobody", x.kin(0, c), false);
            same("nobody with him", x.kin(c, 0), false);
            same("nobody with nobody", x.kin(c, c), false);
        }
        same("no pairs", x.count(2), 0);
        same("no kin", x.about(0, 3), 0);
    }

    private static void kinOfHimself() {
        ElectionHouse x = city("00", "10");
        same("himself", x.kin(0, 0), false);
        same("himself", x.kin(1, 1), false);
        same("no pairs", x.count(2), 0);
        same("no kin", x.about(0, 3), 0);
    }

    private static void kinAlready() {
        ElectionHouse x = city("00", "10");
        x.kin(0, 1);
        same("told already", x.kin(0, 1), false);
        same("told the other way round", x.kin(1, 0), false);
        same("one pair", x.count(2), 1);
        same("one is kin", x.about(0, 3), 1);
    }

    private static void kinBeyondSixty() {
        ElectionHouse x = full();
        for (int i = 0; i < 60; i++) {
            same("pair " + i, i < 38 ? x.kin(i, i + 1) : x.kin(i - 38, i - 36), true);
        }
        same("the 61st", x.kin(0, 39), false);
        same("the 61st", x.kin(38, 39), false);
        same("60 pairs", x.count(2), 60);
        // 39 was told with nobody; 3, 15 and 27 are of his house.
        same("nothing happened", x.about(39, 3), 3);
    }

    // ---- promise 5

    private static void saysChanges() {
        ElectionHouse x = new ElectionHouse();
        for (int voters = 0; voters < 4; voters++) {
            for (int party = 0; party < 4; party++) {
                same("as at first", x.says(voters, party, voters == party), false);
                same("changed", x.says(voters, party, voters != party), true);
                same("no change", x.says(voters, party, voters != party), false);
                same("changed back", x.says(voters, party, voters == party), true);
            }
        }
        // The voters' party comes first.
        ElectionHouse y = city("01", "10");
        take(y, "draw 1;elect by 1");
        lots(y, 0);
        steps(y, 0, 2);
        y.says(0, 1, true);
        steps(y, 2);
        y.says(1, 0, true);
        steps(y, 0);
        same("elected", y.elected(), 1);
    }

    private static void saysWithoutThese() {
        ElectionHouse x = new ElectionHouse();
        for (int wrong : new int[] {-1, 4, 5, LOW, HIGH}) {
            same("no voters", x.says(wrong, 0, true), false);
            same("no voters", x.says(wrong, 0, false), false);
            same("no party", x.says(0, wrong, true), false);
            same("no party", x.says(0, wrong, false), false);
            same("neither", x.says(wrong, wrong, true), false);
        }
        for (int at = 0; at < 16; at++) {
            same("nothing changed", x.says(at / 4, at % 4, at / 4 == at % 4), false);
        }
    }

    // ---- promise 6

    private static void turns() {
        ElectionHouse x = city("00", "10");
        same("turns", x.turn(1, 11, 3), true);
        same("house", x.about(1, 0), 11);
        same("party", x.about(1, 1), 3);
        same("the party alone", x.turn(1, 11, 2), true);
        same("party", x.about(1, 1), 2);
        same("the house alone", x.turn(1, 0, 2), true);
        same("house", x.about(1, 0), 0);
        same("kin by his house", x.about(1, 3), 1);
        same("nobody else", x.about(0, 1), 0);
        leave(x, 1);
        same("one who left", x.turn(1, 5, 1), true);
        same("house", x.about(1, 0), 5);
        same("is not there still", x.about(1, 2), 0);
        // To what he is already: it is a house and a party, so it is taken.
        same("the same", x.turn(0, 0, 0), true);
    }

    private static void turnsNot() {
        ElectionHouse x = city("52", "10");
        for (int c : new int[] {2, 39, 40, -1, LOW, HIGH}) {
            same("nobody", x.turn(c, 0, 0), false);
        }
        for (int wrong : new int[] {-1, LOW, HIGH}) {
            same("no house", x.turn(0, wrong, 1), false);
            same("no party", x.turn(0, 1, wrong), false);
        }
        same("house 12", x.turn(0, 12, 1), false);
        same("party 4", x.turn(0, 1, 4), false);
        same("house stays", x.about(0, 0), 5);
        same("party stays", x.about(0, 1), 2);
    }

    // ---- promise 7

    private static void feedComesBehind() {
        ElectionHouse x = new ElectionHouse();
        feed(x, "draw 1;");
        feed(x, "elect by 1");
        same("one behind the other", x.count(8), 17);
        same("one text", x.procedure(), 2);
        // All twenty come, also those that are 0.
        x.feed(0x64726177, 0x20313b65, 0x6c656374, 0x20627920, 0x31000000);
        same("the first of three bytes 0", x.procedure(), fault(17, 0));
        x.feed(0x64726177, 0x20313b65, 0x6c656374, 0x20627920, 0x31202000);
        same("the last byte", x.procedure(), fault(19, 0));
    }

    private static void feedHighestFirst() {
        ElectionHouse x = new ElectionHouse();
        same("feed", x.feed(0x64726177, 0x20313b65, 0x6c656374, 0x20627920, 0x31202020), 20);
        same("draw 1;elect by 1", x.procedure(), 2);
        x.feed(0x77617264, 0x20313b65, 0x6c656374, 0x20627920, 0x31202020);
        same("ward 1;elect by 1", x.procedure(), fault(0, 0));
        // Highest bytes above 127, of numbers below 0, are bytes like others.
        x.feed(0x64726177, 0xa0313b65, 0x6c656374, 0x20627920, 0x31202020);
        same("byte 160", x.procedure(), fault(4, 0));
        x.feed(0x64726177, 0xff202020, 0x31202020, 0x3b656c65, 0x63742062);
        same("byte 255", x.procedure(), fault(4, 0));
        x.feed(-1, -1, -1, -1, -1);
        same("bytes 255", x.procedure(), fault(0, 0));
    }

    private static void feedTells() {
        ElectionHouse x = new ElectionHouse();
        same("20", x.feed(0, 0, 0, 0, 0), 20);
        same("40", x.feed(LOW, HIGH, -1, 1, 0), 40);
        x.end(7);
        same("27", x.feed(0, 0, 0, 0, 0), 27);
        x.procedure();
        same("20", x.feed(0, 0, 0, 0, 0), 20);
    }

    private static void feedBeyond() {
        ElectionHouse x = new ElectionHouse();
        for (int i = 1; i <= 15; i++) {
            same("feed " + i, x.feed(0, 0, 0, 0, 0), 20 * i);
        }
        same("320", x.feed(0, 0, 0, 0, 0), -1);
        same("300", x.count(8), 300);
        x.end(299);
        same("319", x.feed(0, 0, 0, 0, 0), -1);
        same("none came", x.count(8), 299);
        x.end(281);
        same("301", x.feed(0, 0, 0, 0, 0), -1);
        same("none came", x.count(8), 281);
        x.end(280);
        same("300", x.feed(0, 0, 0, 0, 0), 300);
    }

    // ---- promise 8

    private static void endCuts() {
        ElectionHouse x = new ElectionHouse();
        same("of none", x.end(0), 0);
        x.feed(0x64726177, 0x20313b65, 0x6c656374, 0x20627920, 0x31317878);
        same("as many as it has", x.end(20), 20);
        same("the first 17", x.end(17), 17);
        same("17 bytes", x.count(8), 17);
        same("draw 1;elect by 1", x.procedure(), 2);
        feed(x, "draw 1;elect by 1");
        same("none", x.end(0), 0);
        same("no bytes", x.count(8), 0);
        same("an empty text", x.procedure(), fault(0, 0));
    }

    private static void endBeyond() {
        ElectionHouse x = new ElectionHouse();
        same("of none", x.end(1), -1);
        x.feed(0, 0, 0, 0, 0);
        same("one more", x.end(21), -1);
        same("far more", x.end(HIGH), -1);
        same("nothing happened", x.count(8), 20);
        x.end(5);
        same("what was cut off is gone", x.end(6), -1);
        same("nothing happened", x.count(8), 5);
    }

    private static void endBelow() {
        ElectionHouse x = new ElectionHouse();
        same("of none", x.end(-1), -1);
        x.feed(0, 0, 0, 0, 0);
        same("below 0", x.end(-1), -1);
        same("far below 0", x.end(LOW), -1);
        same("nothing happened", x.count(8), 20);
    }

    // ---- promise 9

    private static void procedureEmptiesTape() {
        ElectionHouse x = new ElectionHouse();
        same("taken", take(x, "draw 1;elect by 1"), 2);
        same("empty", x.count(8), 0);
        same("empty", x.end(1), -1);
        same("refused", take(x, "draw 1;elect by 2"), fault(16, 3));
        same("empty", x.count(8), 0);
        same("nothing of the old text", take(x, "draw 1;elect by 1"), 2);
    }

    private static void procedureBeginsSession() {
        ElectionHouse x = four();
        lots(x, 0, 0, 0, 0, 0);
        steps(x, 0, 0, 0, 0);
        same("elected", x.elected(), 0);
        same("taken", take(x, "draw 1;elect by 1"), 2);
        same("none done", x.count(4), 0);
        same("nobody elected", x.elected(), -1);
        bodyIs(x, 0, 1, 2, 3);
        same("nothing to undo", x.protest(0), false);
        lotsAre(x, 0, 5);
        steps(x, 1);
    }

    private static void procedureTellsSteps() {
        ElectionHouse x = new ElectionHouse();
        for (int n = 2; n <= 12; n++) {
            same("steps", take(x, nines(n - 1) + ";elect by 1"), n);
            same("steps", x.count(3), n);
        }
    }

    private static void procedureTellsFault() {
        ElectionHouse x = new ElectionHouse();
        same("the least", x.procedure(), -3);
        same("number 1", take(x, "draw 0;elect by 1"), -2 - (1 + 8 * 5 + 1));
        same("number 2", take(x, nines(13)), -2 - (1 + 8 * 84 + 2));
        same("number 3", take(x, "draw 1;elect by 2"), -2 - (1 + 8 * 16 + 3));
        same("the furthest", take(x, " ".repeat(300)), -2 - (1 + 8 * 300));
    }

    private static void procedureStays() {
        ElectionHouse x = four();
        lots(x, 3, 2, 1, 2, 1);
        steps(x, 0, 0);
        // Faults far into a text, so that a part of it was read
        for (String text : new String[] {"", "draw 1;draw 1;draw 1;draw 2", "draw 1;elect by 1;", nines(13)}) {
            same("refused", take(x, text) < -2, true);
            same("steps stay", x.count(3), 4);
            same("done stays", x.count(4), 2);
            bodyIs(x, 1, 2);
        }
        // Its third step is done as it was told: three by one vote.
        steps(x, 0);
        bodyIs(x, 0, 1, 2);
        steps(x, 0);
        same("elected", x.elected(), 0);
        take(x, "draw");
        same("stays elected", x.elected(), 0);
        same("all done", x.step(), 3);
        ElectionHouse y = new ElectionHouse();
        take(y, "draw 5;draw 6");
        same("no procedure stays none", y.step(), 3);
        same("no procedure stays none", y.chances(), -1);
    }

    // ---- promise 10

    private static void lotTold() {
        ElectionHouse x = city("00");
        same("one", x.lot(7), 1);
        same("the same again", x.lot(7), 2);
        same("ahead of a procedure", x.count(6), 2);
        take(x, "draw 1;elect by 1");
        same("they wait still", x.lot(8), 3);
        steps(x, 0);
        same("one was used", x.lot(9), 3);
    }

    private static void lotBeyond() {
        ElectionHouse x = new ElectionHouse();
        for (int i = 1; i <= 499; i++) {
            x.lot(i);
        }
        same("the 500th", x.lot(0), 500);
        same("the 501st", x.lot(0), -1);
        same("the 501st", x.lot(9999), -1);
        same("500 wait", x.count(6), 500);
        same("none is used", x.count(7), 0);
    }

    private static void lotOfNoValue() {
        ElectionHouse x = new ElectionHouse();
        for (int v : new int[] {-1, 10000, 10001, LOW, HIGH}) {
            same("no lot " + v, x.lot(v), -1);
            same("none waits", x.count(6), 0);
        }
        same("0", x.lot(0), 1);
        same("9999", x.lot(9999), 2);
    }

    // ---- promise 11

    private static void stepTells() {
        ElectionHouse x = city("00", "10", "20");
        same("no procedure", x.step(), 3);
        take(x, "draw 2;choose 4 by 1;elect by 1");
        same("lots lack", x.step(), 1);
        lots(x, 0, 0);
        same("done", x.step(), 0);
        same("can't fill", x.step(), 2);
        same("one is done", x.count(4), 1);
        take(x, "draw 1;elect by 1");
        lots(x, 0);
        same("done", x.step(), 0);
        same("done", x.step(), 0);
        same("all done", x.step(), 3);
        // Twelve steps, each the next one
        ElectionHouse y = ofParties(9);
        take(y, nines(11) + ";elect by 1");
        lots(y, new int[99]);
        for (int done = 1; done <= 12; done++) {
            same("step", y.step(), 0);
            same("done", y.count(4), done);
        }
        same("all done", y.step(), 3);
        lotsAre(y, 0, 99);
    }

    // ---- promise 12

    private static void protestTold() {
        ElectionHouse x = four();
        lots(x, 3, 0, 0, 1, 0);
        steps(x, 0, 0, 0, 0);
        for (int k = 3; k >= 0; k--) {
            same("against " + k, x.protest(k), true);
            same("done", x.count(4), k);
        }
        lots(x, 0, 0, 0, 0, 0);
        steps(x, 0, 0, 0, 0);
        same("all at once", x.protest(0), true);
        same("none done", x.count(4), 0);
        ElectionHouse y = ofParties(9);
        take(y, nines(11) + ";elect by 1");
        lots(y, new int[99]);
        for (int i = 0; i < 12; i++) {
            y.step();
        }
        same("against the twelfth", y.protest(12), false);
        same("against the last", y.protest(11), true);
        same("eleven are done", y.count(4), 11);
    }

    private static void protestOfNotDone() {
        ElectionHouse x = city("00", "10", "20", "30");
        same("no procedure", x.protest(0), false);
        take(x, "draw 3;draw 2;elect by 1");
        same("nothing is done", x.protest(0), false);
        lots(x, 3, 0, 0);
        steps(x, 0);
        for (int k : new int[] {1, 2, 3, 12, -1, LOW, HIGH}) {
            same("not done: " + k, x.protest(k), false);
        }
        steps(x, 1);
        same("lots lacked", x.protest(1), false);
        same("one is done", x.count(4), 1);
        bodyIs(x, 3, 0, 1);
        lots(x, 0, 0);
        steps(x, 0, 0);
        same("elected", x.elected(), 0);
        same("beyond", x.protest(3), false);
        same("elected", x.elected(), 0);
    }

    // ---- promise 13

    private static void bodyAt() {
        ElectionHouse x = city("00", "10", "20");
        bodyIs(x, 0, 1, 2);
        leave(x, 0);
        bodyIs(x, 1, 2);
        take(x, "draw 2;elect by 1");
        lots(x, 1, 0);
        steps(x, 0);
        bodyIs(x, 2, 1);
        ElectionHouse y = full();
        same("the first", y.body(0), 0);
        same("the last", y.body(39), 39);
    }

    private static void bodyBeyond() {
        ElectionHouse x = city("00", "10", "20");
        take(x, "draw 2;draw 1;elect by 1");
        lots(x, 0, 0, 0);
        for (int size = 3; size >= 1; size--) {
            for (int k : new int[] {-1, size, size + 1, 39, 40, LOW, HIGH}) {
                same("none at " + k, x.body(k), -1);
            }
            x.step();
        }
        same("full", full().body(40), -1);
        same("an empty one", new ElectionHouse().body(0), -1);
    }

    // ---- promise 14

    private static void ballotOfTheLatest() {
        ElectionHouse x = city("00", "10", "21");
        take(x, "draw 3;choose 2 by 1;elect by 2");
        lots(x, 0, 0, 0, 0, 0);
        steps(x, 0, 0);
        ballotIs(x, 0, 2, 2);
        steps(x, 2);
        // The election can't fill: it is the latest tried.
        ballotIs(x, 0, 3, 0);
        votesAre(x, 1, 1, 0);
        same("the choice undone", x.protest(1), true);
        ballotIs(x, 0, 3, 0);
        steps(x, 0);
        ballotIs(x, 0, 2, 2);
        votesAre(x, 1, 1, -1);
        // Neither a draw, nor a step without a step, nor a new procedure is one.
        take(x, "draw 2;elect by 1");
        ballotIs(x, 0, 2, 2);
        steps(x, 0);
        ballotIs(x, 0, 2, 2);
        steps(x, 0, 3);
        ballotIs(x, 0, 1, 1);
        x.chances();
        leave(x, 0);
        ballotIs(x, 0, 1, 1);
        votesAre(x, 1, -1, -1);
    }

    private static void ballotCounts() {
        ElectionHouse x = city("00", "00", "01", "10", "20", "20");
        take(x, "draw 6;choose 4 by 1 house 1;elect by 1");
        lots(x, 0, 0, 0, 0, 0, 0);
        steps(x, 0, 2);
        // 1, 2 and 5 are barred; 0, 3 and 4 voted on and chosen
        ballotIs(x, 3, 3, 3);
        take(x, "draw 6;choose 3 by 3 house 1;elect by 3");
        lots(x, 0, 0, 0, 0, 0, 0);
        steps(x, 0, 0);
        ballotIs(x, 2, 3, 3);
        steps(x, 2);
        ballotIs(x, 0, 6, 0);
        take(x, "draw 6;elect by 4");
        lots(x, 0, 0, 0, 0, 0, 0);
        steps(x, 0);
        steps(x, 0);
        // 0, 1 and 2 have too few votes; 3 has those of 0, 1, 4 and 5
        ballotIs(x, 0, 4, 1);
    }

    private static void ballotVotes() {
        ElectionHouse x = city("00", "00", "10", "21", "30");
        leave(x, 4);
        take(x, "draw 4;choose 2 by 1 house 1;elect by 1");
        lots(x, 0, 0, 0, 0);
        steps(x, 0, 0);
        // 0: of 2; 1: barred; 2: of 0 and 1; then two are chosen
        votesAre(x, 1, -1, 2, -1, -1, -1);
        ElectionHouse y = full();
        take(y, "draw 1;elect by 1");
        lots(y, 38);
        steps(y, 0);
        leave(y, 2, 6, 10, 14, 18, 22, 26, 30, 34);
        steps(y, 2);
        // 38 himself is the only one of his party who is there: nobody has his vote.
        ballotIs(y, 0, 31, 0);
        same("votes for the last one", y.ballot(139), 0);
        same("who is not there", y.ballot(134), -1);
        same("nobody", y.ballot(140), -1);
        y.says(2, 3, true);
        leave(y, 3, 7, 11, 15, 19, 23, 27, 31, 35);
        steps(y, 0);
        same("the last one", y.elected(), 39);
        same("votes for the last one", y.ballot(139), 1);
    }

    private static void ballotAheadOfAny() {
        ElectionHouse x = city("00", "10");
        take(x, "draw 1;elect by 1");
        int[] whats = {0, 1, 2, 100, 101, 139};
        for (int what : whats) {
            same("ahead of any", x.ballot(what), -1);
        }
        steps(x, 1);
        lots(x, 0);
        steps(x, 0);
        for (int what : whats) {
            same("a draw is none", x.ballot(what), -1);
        }
        steps(x, 0);
        same("behind one", x.ballot(0), 0);
    }

    private static void ballotOfAnother() {
        ElectionHouse x = city("00", "10");
        take(x, "draw 1;elect by 1");
        lots(x, 0);
        steps(x, 0, 0);
        for (int what : new int[] {-1, 3, 4, 50, 99, 102, 140, 141, 1000, LOW, HIGH, LOW + 100}) {
            same("another what " + what, x.ballot(what), -1);
        }
    }

    // ---- promise 15

    private static void electedOne() {
        ElectionHouse x = four();
        lots(x, 3, 2, 1, 0, 0);
        steps(x, 0, 0, 0, 0);
        same("he", x.elected(), 0);
        leave(x, 0);
        x.turn(0, 5, 3);
        x.says(0, 0, false);
        same("stays", x.elected(), 0);
        take(x, "draw 0");
        same("stays behind a fault", x.elected(), 0);
        ElectionHouse y = city("00", "01", "12");
        y.says(0, 2, true);
        take(y, "draw 1;elect by 1");
        lots(y, 0);
        steps(y, 0, 0);
        same("the last one", y.elected(), 2);
    }

    private static void electedNobody() {
        ElectionHouse x = city("00", "10");
        same("no procedure", x.elected(), -1);
        take(x, "draw 1;choose 1 by 1;elect by 1");
        lots(x, 1, 1);
        for (int done = 0; done < 3; done++) {
            same("none yet", x.elected(), -1);
            steps(x, 0);
        }
        same("elected", x.elected(), 1);
        x.protest(2);
        same("undone", x.elected(), -1);
        x.says(0, 0, false);
        steps(x, 2);
        same("can't fill", x.elected(), -1);
        x.says(0, 0, true);
        steps(x, 0);
        x.protest(0);
        same("undone with all", x.elected(), -1);
        steps(x, 0, 0, 0);
        take(x, "draw 1;elect by 1");
        same("a new session", x.elected(), -1);
    }

    // ---- promises 16 and 17

    private static void chancesCounted() {
        ElectionHouse x = city("00", "10", "21");
        take(x, "draw 2;elect by 2");
        same("counted", x.chances(), 0);
        waysAre(x, 3, 2, 1, 0, 0);
        same("counted again", x.chances(), 0);
        waysAre(x, 3, 2, 1, 0, 0);
        // It changes nothing of the session.
        same("none done", x.count(4), 0);
        bodyIs(x, 0, 1, 2);
        same("no lots", x.count(7), 0);
        same("no ballot", x.ballot(1), -1);
        same("nobody elected", x.elected(), -1);
        lots(x, 0, 0);
        steps(x, 0);
        same("counted", x.chances(), 0);
        waysAre(x, 1, 0, 1, 0, 0);
    }

    private static void chancesSpent() {
        ElectionHouse x = full();
        take(x, "draw 20;draw 10;elect by 1");
        same("too many ways", x.chances(), -2);
        take(x, "draw 18;elect by 1");
        same("too many bodies", x.chances(), -2);
        same("nothing counted", x.ways(41), -1);
        lots(x, new int[18]);
        steps(x, 0);
        same("of one body", x.chances(), 0);
    }

    private static void chancesWithoutProcedure() {
        ElectionHouse x = city("00");
        same("no procedure", x.chances(), -1);
        take(x, "draw 1;elect by 2");
        same("none taken", x.chances(), -1);
        same("nothing counted", x.ways(41), -1);
    }

    private static void chancesOfNoStep() {
        ElectionHouse x = city("00", "10");
        take(x, "draw 1;elect by 1");
        lots(x, 0);
        steps(x, 0);
        same("one to come", x.chances(), 0);
        steps(x, 0);
        same("all done", x.chances(), -1);
        waysAre(x, 1, 0, 1, 0);
        x.protest(1);
        same("one to come again", x.chances(), 0);
    }

    private static void waysOfTheLatest() {
        ElectionHouse x = ofParties(2, 1);
        take(x, "draw 2;elect by 1");
        same("counted", x.chances(), 0);
        waysAre(x, 3, 0, 3, 0, 0);
        // What comes behind it does not change it: citizens, turns, a new procedure.
        x.citizen(1, 1);
        x.turn(0, 0, 3);
        leave(x, 1);
        take(x, "draw 1;elect by 1");
        waysAre(x, 3, 0, 3, 0, 0, 0);
        same("counted", x.chances(), 0);
        waysAre(x, 3, 0, 1, 0, 2, 0);
        for (int i = 4; i < 40; i++) {
            x.citizen(i % 12, i % 4);
        }
        take(x, "draw 20;draw 10;elect by 1");
        same("spent by ways", x.chances(), -2);
        waysAre(x, 3, 0, 1, 0, 2, 0);
        take(x, "draw 18;elect by 1");
        same("spent by bodies", x.chances(), -2);
        waysAre(x, 3, 0, 1, 0, 2, 0);
        take(x, "draw 1;elect by 1");
        lots(x, 0);
        steps(x, 0, 0);
        same("all done", x.chances(), -1);
        waysAre(x, 3, 0, 1, 0, 2, 0);
    }

    private static void waysByNumber() {
        ElectionHouse x = ofParties(1, 2, 3);
        take(x, "draw 2;elect by 2");
        same("counted", x.chances(), 0);
        // Both of party 1: one set; both of party 2: three; else nobody has two votes
        waysAre(x, 15, 11, 0, 1, 0, 3, 0, 0);
        long sum = 0;
        for (int c = 0; c <= 40; c++) {
            sum += x.ways(c);
        }
        same("they add up", sum, x.ways(41));
    }

    private static void waysAheadOfAny() {
        ElectionHouse x = full();
        take(x, "draw 20;draw 10;elect by 1");
        for (int c : new int[] {0, 1, 39, 40, 41, 42, -1}) {
            same("ahead of any", x.ways(c), -1);
        }
        same("spent", x.chances(), -2);
        for (int c : new int[] {0, 1, 39, 40, 41, 42, -1}) {
            same("spent is none", x.ways(c), -1);
        }
    }

    private static void waysOfAnother() {
        ElectionHouse x = full();
        take(x, "draw 1;elect by 1");
        same("counted", x.chances(), 0);
        for (int c : new int[] {-1, 42, 43, 100, LOW, HIGH}) {
            same("another number " + c, x.ways(c), -1);
        }
        same("the last citizen", x.ways(39), 0);
    }

    // ---- promise 18

    private static void aboutHouseAndParty() {
        ElectionHouse x = city("00", "b3", "51");
        int[][] due = {{0, 0}, {11, 3}, {5, 1}};
        for (int c = 0; c < 3; c++) {
            same("house", x.about(c, 0), due[c][0]);
            same("party", x.about(c, 1), due[c][1]);
        }
        x.turn(0, 7, 2);
        same("house of now", x.about(0, 0), 7);
        same("party of now", x.about(0, 1), 2);
    }

    private static void aboutThere() {
        ElectionHouse x = city("00", "10");
        leave(x, 1);
        same("there", x.about(0, 2), 1);
        same("not there", x.about(1, 2), 0);
        come(x, 1);
        same("there again", x.about(1, 2), 1);
    }

    private static void aboutKin() {
        ElectionHouse x = city("30", "30", "40", "50", "30");
        same("two of his house", x.about(0, 3), 2);
        x.kin(0, 2);
        same("and one told", x.about(0, 3), 3);
        x.kin(0, 1);
        same("told of his house: once", x.about(0, 3), 3);
        leave(x, 1, 2);
        same("there or not", x.about(0, 3), 3);
        leave(x, 0);
        same("there or not himself", x.about(0, 3), 3);
        same("told alone", x.about(2, 3), 1);
        same("nobody", x.about(3, 3), 0);
        x.turn(1, 4, 0);
        same("by the house of now, and as told", x.about(1, 3), 2);
        same("as told still", x.about(0, 3), 3);
        ElectionHouse y = new ElectionHouse();
        for (int i = 0; i < 40; i++) {
            y.citizen(7, 0);
        }
        same("all others", y.about(39, 3), 39);
    }

    private static void aboutNobody() {
        ElectionHouse x = city("00", "10");
        for (int c : new int[] {2, 39, 40, -1, LOW, HIGH}) {
            for (int what = 0; what <= 3; what++) {
                same("nobody", x.about(c, what), -1);
            }
        }
    }

    private static void aboutAnother() {
        ElectionHouse x = city("00", "10");
        for (int what : new int[] {-1, 4, 5, 100, LOW, HIGH}) {
            same("another what", x.about(0, what), -1);
            same("nobody, another what", x.about(2, what), -1);
        }
    }

    // ---- promise 19

    private static void countCitizens() {
        ElectionHouse x = new ElectionHouse();
        for (int n = 0; n <= 40; n++) {
            same("citizens", x.count(0), n);
            x.citizen(0, 0);
        }
        same("no more", x.count(0), 40);
        leave(x, 0);
        same("there or not", x.count(0), 40);
    }

    private static void countThere() {
        ElectionHouse x = ofParties(5);
        same("all", x.count(1), 5);
        leave(x, 0, 4);
        same("three", x.count(1), 3);
        take(x, "draw 3;elect by 1");
        lots(x, 0, 0, 0);
        steps(x, 0);
        leave(x, 1);
        same("behind a step too", x.count(1), 2);
        come(x, 0, 1, 4);
        same("all again", x.count(1), 5);
    }

    private static void countPairs() {
        ElectionHouse x = city("00", "00", "10");
        same("of one house is not told", x.count(2), 0);
        x.kin(0, 2);
        x.kin(2, 0);
        same("one", x.count(2), 1);
        x.kin(0, 1);
        same("two", x.count(2), 2);
        x.turn(0, 5, 0);
        leave(x, 0);
        same("they stay", x.count(2), 2);
    }

    private static void countSteps() {
        ElectionHouse x = city("00");
        same("none", x.count(3), 0);
        take(x, "draw 1");
        same("none taken", x.count(3), 0);
        take(x, "draw 1;choose 1 by 1;elect by 1");
        same("three", x.count(3), 3);
        lots(x, 0);
        steps(x, 0);
        same("done or not", x.count(3), 3);
        take(x, nines(11) + ";elect by 1");
        same("twelve", x.count(3), 12);
    }

    private static void countDone() {
        ElectionHouse x = four();
        same("none", x.count(4), 0);
        steps(x, 1);
        same("lots lacked", x.count(4), 0);
        lots(x, 0, 0, 0, 0, 0);
        for (int done = 1; done <= 4; done++) {
            steps(x, 0);
            same("done", x.count(4), done);
        }
        steps(x, 3);
        same("four still", x.count(4), 4);
        x.protest(2);
        same("two", x.count(4), 2);
        x.says(0, 0, false);
        steps(x, 2);
        same("can't fill", x.count(4), 2);
    }

    private static void countBody() {
        ElectionHouse x = four();
        lots(x, 0, 0, 0, 0, 0);
        for (int size : new int[] {4, 3, 2, 3, 3}) {
            same("of the body", x.count(5), size);
            x.step();
        }
        x.protest(0);
        leave(x, 0, 1, 2, 3);
        same("nobody", x.count(5), 0);
    }

    private static void countLots() {
        ElectionHouse x = city("00", "10", "20");
        take(x, "draw 1;elect by 1");
        lots(x, 9999, 9999, 1, 9999);
        lotsAre(x, 4, 0);
        steps(x, 0);
        lotsAre(x, 1, 3);
        x.protest(0);
        steps(x, 1);
        lotsAre(x, 1, 3);
        take(x, "draw 1;draw 1;elect by 1");
        lotsAre(x, 1, 3);
        lots(x, 2, 5);
        steps(x, 0, 0, 0);
        lotsAre(x, 0, 6);
        x.lot(-1);
        lotsAre(x, 0, 6);
    }

    private static void countBytes() {
        ElectionHouse x = new ElectionHouse();
        same("none", x.count(8), 0);
        x.feed(0, 0, 0, 0, 0);
        same("20", x.count(8), 20);
        x.end(3);
        same("3", x.count(8), 3);
        x.feed(0, 0, 0, 0, 0);
        same("23", x.count(8), 23);
        x.procedure();
        same("none", x.count(8), 0);
    }

    private static void countOthers() {
        ElectionHouse x = four();
        for (int what : new int[] {-1, 9, 10, 100, LOW, HIGH}) {
            same("another what", x.count(what), -1);
        }
    }
}
