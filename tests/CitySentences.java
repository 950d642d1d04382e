import java.io.IOException;

/** The first part of the document's terms: citizens, the procedure as a text, and its faults. */
public final class CitySentences extends Sentences {
    public static void main(String[] args) throws IOException {
        open(args);
        part("counted exactly over all lots. ==== I.", "## The public face");
        sentence("An object is used for at most 512 calls after it has been made; what later calls answer is free.",
                CitySentences::fiveHundredTwelveCalls);
        citizens();
        procedure();
        faults();
        close();
    }

    private static void citizens() {
        part("## Terms", "The PROCEDURE:");
        sentence("CITIZENS 0 to 39,", CitySentences::fortyCitizens);
        sentence("each of a HOUSE (0 to 11)", CitySentences::houses);
        sentence("and a PARTY (0 to 3),", CitySentences::parties);
        sentence("there or not (there at first).", CitySentences::thereAtFirst);
        sentence("Two CITIZENS may be KIN (told; 60 pairs at most);", CitySentences::sixtyPairs);
        sentence("those of one HOUSE are KIN besides.", CitySentences::kinOfOneHouse);
        sentence("A table tells for each two PARTIES whether one's voters say yes to the other one's CITIZENS "
                + "(each to its own at first, else no).", CitySentences::table);
    }

    private static void procedure() {
        part("else no).", "FAULTS,");
        sentence("The PROCEDURE: a text of at most 300 bytes:", CitySentences::threeHundredBytes);
        sentence("STEP { ; STEP },", CitySentences::stepsDivided);
        sentence("12 at most.", CitySentences::twelveSteps);
        sentence("STEP: draw N; choose N by M, perhaps house H; elect by M.", CitySentences::stepForms);
        sentence("N, M, H: NUMBERS (1 to 2 digits, as far as digits go on;", CitySentences::digits);
        sentence("N, M 1 to 40,", CitySentences::numbersToForty);
        sentence("H 1 to 9);", CitySentences::limitsToNine);
        sentence("WORDS small letters (as far as these go on);", CitySentences::words);
        sentence("blanks (32) between.", CitySentences::blanks);
        sentence("The first STEP is draw,", CitySentences::firstIsDraw);
        sentence("the last one elect,", CitySentences::lastIsElect);
        sentence("none between is elect.", CitySentences::noneBetweenIsElect);
        sentence("The BODY is all CITIZENS that are there at first,", CitySentences::bodyAtFirst);
        sentence("N of them behind draw N,", CitySentences::bodyBehindDraw);
        sentence("N behind choose N,", CitySentences::bodyBehindChoose);
        sentence("behind elect that which elected.", CitySentences::bodyBehindElect);
    }

    private static void faults() {
        part("behind elect that which elected.", "==== II.");
        sentence("FAULTS, the first along the text,", CitySentences::firstFault);
        sentence("1 + 8 * its place and:", CitySentences::everyPlace);
        sentence("0 a byte or WORD that can't stand there", CitySentences::cantStand);
        sentence("(also a first STEP that is no draw;", CitySentences::firstNoDraw);
        sentence("a ; behind elect),", CitySentences::semicolonBehindElect);
        sentence("or the end (behind the last byte;", CitySentences::everyEnd);
        sentence("without elect too);", CitySentences::endWithoutElect);
        sentence("1 a NUMBER not as told;", CitySentences::numberNotAsTold);
        sentence("2 the 13th STEP;", CitySentences::thirteenthStep);
        sentence("3 a NUMBER that can't be met: N of a draw that is not the first above the BODY by the text,",
                CitySentences::drawAboveBody);
        sentence("M above it (of elect, choose: of the BODY as the text has it there).", CitySentences::votesAboveBody);
        sentence("(Of one place the least number.)", CitySentences::leastNumber);
        sentence("The N of the first draw, and N of choose, are asked only as they are done.",
                CitySentences::askedAsDone);
    }

    // ---- citizens

    private static void fiveHundredTwelveCalls() {
        ElectionHouse x = new ElectionHouse();
        for (int i = 1; i <= 500; i++) {
            same("call " + i, x.lot(i), i);
        }
        same("call 501", x.citizen(0, 0), 0);
        same("call 502", x.citizen(1, 0), 1);
        same("call 503", x.feed(0x64726177, 0x20313b65, 0x6c656374, 0x20627920, 0x31202020), 20);
        same("call 504", x.procedure(), 2);
        same("call 505", x.chances(), 0);
        same("call 506", x.ways(0), 2);
        same("call 507", x.step(), 0);
        same("call 508", x.body(0), 1);
        same("call 509", x.step(), 0);
        same("call 510", x.elected(), 0);
        same("call 511", x.ballot(100), 1);
        same("call 512", x.count(7), 1);
    }

    private static void fortyCitizens() {
        ElectionHouse x = new ElectionHouse();
        for (int i = 0; i < 40; i++) {
            same("citizen " + i, x.citizen(i % 12, i % 4), i);
        }
        same("the 41st", x.citizen(0, 0), -1);
        same("still 40", x.count(0), 40);
        same("the last one's house", x.about(39, 0), 3);
        same("the last one leaves", x.there(39, false), true);
        same("the last one is kin", x.kin(38, 39), true);
        same("the last one turns", x.turn(39, 0, 0), true);
        same("nobody 40", x.about(40, 0), -1);
        same("nobody 40 leaves", x.there(40, false), false);
        same("nobody 40 is kin", x.kin(39, 40), false);
        same("nobody 40 turns", x.turn(40, 0, 0), false);
    }

    private static void houses() {
        ElectionHouse x = new ElectionHouse();
        for (int house : new int[] {-1, 12, Integer.MIN_VALUE, Integer.MAX_VALUE}) {
            same("no house " + house, x.citizen(house, 0), -1);
        }
        same("nobody came", x.count(0), 0);
        same("house 0", x.citizen(0, 0), 0);
        same("house 11", x.citizen(11, 0), 1);
        same("is of house 0", x.about(0, 0), 0);
        same("is of house 11", x.about(1, 0), 11);
        for (int house : new int[] {-1, 12, Integer.MIN_VALUE, Integer.MAX_VALUE}) {
            same("turns to no house " + house, x.turn(1, house, 0), false);
        }
        same("turns to 11", x.turn(0, 11, 0), true);
        same("turns to 0", x.turn(1, 0, 0), true);
        same("is of house 11", x.about(0, 0), 11);
        same("is of house 0", x.about(1, 0), 0);
    }

    private static void parties() {
        ElectionHouse x = new ElectionHouse();
        int[] none = {-1, 4, Integer.MIN_VALUE, Integer.MAX_VALUE};
        for (int party : none) {
            same("no party " + party, x.citizen(0, party), -1);
        }
        same("nobody came", x.count(0), 0);
        same("party 0", x.citizen(0, 0), 0);
        same("party 3", x.citizen(0, 3), 1);
        same("is of party 3", x.about(1, 1), 3);
        for (int party : none) {
            same("turns to no party " + party, x.turn(1, 0, party), false);
            same("no voters " + party, x.says(party, 0, true), false);
            same("no party voted on " + party, x.says(0, party, true), false);
        }
        same("turns to 3", x.turn(0, 0, 3), true);
        same("turns to 0", x.turn(1, 0, 0), true);
        same("is of party 3", x.about(0, 1), 3);
        same("is of party 0", x.about(1, 1), 0);
        same("voters 3 of 0", x.says(3, 0, true), true);
        same("voters 0 of 3", x.says(0, 3, true), true);
    }

    private static void thereAtFirst() {
        ElectionHouse x = city("00");
        same("is there", x.about(0, 2), 1);
        same("no change", x.there(0, true), false);
        same("leaves", x.there(0, false), true);
        same("the next one", x.citizen(1, 0), 1);
        same("is there too", x.about(1, 2), 1);
        same("the first one is not", x.about(0, 2), 0);
    }

    private static void sixtyPairs() {
        ElectionHouse x = full();
        for (int i = 0; i < 60; i++) {
            same("pair " + i, i < 39 ? x.kin(0, i + 1) : x.kin(i - 37, 1), true);
        }
        same("60 pairs", x.count(2), 60);
        same("the 61st", x.kin(30, 31), false);
        same("still 60", x.count(2), 60);
        same("kin of all", x.about(0, 3), 39);
        // 1: of 0, of 2 to 22 as told, and of his house, 25 and 37, besides
        same("kin told and of his house", x.about(1, 3), 24);
    }

    private static void kinOfOneHouse() {
        ElectionHouse x = city("00", "01", "10");
        same("of one house", x.about(0, 3), 1);
        same("of one house", x.about(1, 3), 1);
        same("alone in his", x.about(2, 3), 0);
        same("no pair is told", x.count(2), 0);
        same("may be told besides", x.kin(0, 1), true);
        same("counts once", x.about(0, 3), 1);
        x.turn(1, 1, 1);
        same("told, of two houses", x.about(0, 3), 1);
        same("told and of one house", x.about(1, 3), 2);
        same("of one house now", x.about(2, 3), 1);
    }

    private static void table() {
        for (int voters = 0; voters < 4; voters++) {
            for (int party = 0; party < 4; party++) {
                boolean own = voters == party;
                String who = voters + " of " + party;
                ElectionHouse x = oneVoter(voters, party);
                same("as at first, " + who, x.step(), own ? 0 : 2);
                for (int other = 0; other < 16; other++) {
                    if (other != voters * 4 + party) {
                        x.says(other / 4, other % 4, !own);
                    }
                }
                x.protest(1);
                // The voter himself is never the one: nobody else of the body votes.
                same("the other fifteen don't matter, " + who, x.step(), own ? 0 : 2);
                x.says(voters, party, !own);
                x.protest(1);
                same("turned round, " + who, x.step(), own ? 2 : 0);
            }
        }
    }

    /** A body of one, and one citizen besides to be voted on. */
    private static ElectionHouse oneVoter(int voters, int party) {
        ElectionHouse x = new ElectionHouse();
        x.citizen(0, voters);
        x.citizen(1, party);
        take(x, "draw 1;elect by 1");
        lots(x, 0);
        x.step();
        return x;
    }

    // ---- the text

    private static void threeHundredBytes() {
        String blanks = " ".repeat(283);
        taken("draw 1;" + blanks + "elect by 1", 2);
        taken("draw 1;elect by 1" + blanks, 2);
        taken(blanks + "draw 1;elect by 1", 2);
        refused("draw 1;elect by 1" + blanks.substring(1) + ";", 299, 0);
        refused(" ".repeat(300), 300, 0);
        ElectionHouse x = new ElectionHouse();
        feed(x, " ".repeat(300));
        same("300 bytes", x.count(8), 300);
        same("no more", x.feed(0, 0, 0, 0, 0), -1);
        same("300 bytes", x.count(8), 300);
    }

    private static void stepsDivided() {
        taken("draw 1;elect by 1", 2);
        taken("draw 1;draw 1;elect by 1", 3);
        refused("draw 1 elect by 1", 7, 0);
        refused("draw 1;;elect by 1", 7, 0);
        refused("draw 1; ;elect by 1", 8, 0);
        refused(";draw 1;elect by 1", 0, 0);
        refused("draw 1,elect by 1", 6, 0);
        refused("draw 1:elect by 1", 6, 0);
    }

    private static void twelveSteps() {
        for (int draws = 1; draws <= 11; draws++) {
            taken(nines(draws) + ";elect by 9", draws + 1);
        }
        refused(nines(12) + ";elect by 9", 84, 2);
        String chosen = "draw 1" + ";choose 1 by 1".repeat(10);
        taken(chosen + ";elect by 1", 12);
        refused(chosen + ";choose 1 by 1;elect by 1", chosen.length() + 15, 2);
    }

    private static void stepForms() {
        taken("draw 9;elect by 9", 2);
        taken("draw 9;choose 3 by 9;elect by 3", 3);
        taken("draw 9;choose 3 by 9 house 2;elect by 3", 3);
        refused("draw by 9;elect by 1", 5, 0);
        refused("draw 9 by 1;elect by 1", 7, 0);
        refused("draw 9 house 1;elect by 1", 7, 0);
        refused("draw 9 9;elect by 1", 7, 0);
        refused("draw 9;choose by 9;elect by 1", 14, 0);
        refused("draw 9;choose 3;elect by 1", 15, 0);
        refused("draw 9;choose 3 9;elect by 1", 16, 0);
        refused("draw 9;choose 3 of 9;elect by 1", 16, 0);
        refused("draw 9;choose 3 house 2 by 9;elect by 1", 16, 0);
        refused("draw 9;choose 3 by;elect by 1", 18, 0);
        refused("draw 9;choose 3 by house 2;elect by 1", 19, 0);
        refused("draw 9;choose 3 by 9 2;elect by 1", 21, 0);
        refused("draw 9;choose 3 by 9 by 9;elect by 1", 21, 0);
        refused("draw 9;choose 3 by 9 house;elect by 1", 26, 0);
        refused("draw 9;choose 3 by 9 house 1 house 1;elect by 1", 29, 0);
        refused("draw 9;elect 1 by 9", 13, 0);
        refused("draw 9;elect 9", 13, 0);
        refused("draw 9;elect by", 15, 0);
        refused("draw 9;elect by 9 house 1", 18, 0);
        refused("draw 9;by 9", 7, 0);
        refused("draw 9;house 9", 7, 0);
        refused("draw 9;9", 7, 0);
    }

    private static void digits() {
        taken("draw 1;elect by 1", 2);
        taken("draw 01;elect by 01", 2);
        taken("draw 40;elect by 40", 2);
        taken("draw 9;choose 03 by 09 house 09;elect by 03", 3);
        refused("draw 001;elect by 1", 5, 1);
        refused("draw 005;elect by 1", 5, 1);
        refused("draw 123;elect by 1", 5, 1);
        refused("draw 5;elect by 001", 16, 1);
        refused("draw 5;choose 001 by 1;elect by 1", 14, 1);
        refused("draw 5;choose 1 by 001;elect by 1", 19, 1);
        refused("draw 5;choose 1 by 1 house 001;elect by 1", 27, 1);
        // 1 above 2 to the 32th and to the 64th, which would wrap around to 1
        refused("draw 4294967297;elect by 1", 5, 1);
        refused("draw 18446744073709551617;elect by 1", 5, 1);
        refused("draw " + "1".repeat(290), 5, 1);
        refused("draw 4 0;elect by 1", 7, 0);
        refused("draw 4x;elect by 1", 6, 0);
    }

    private static void numbersToForty() {
        for (int n = 1; n <= 40; n++) {
            taken("draw " + n + ";elect by 1", 2);
            taken("draw 40;elect by " + n, 2);
            taken("draw 40;choose " + n + " by 1;elect by 1", 3);
            taken("draw 40;choose 1 by " + n + ";elect by 1", 3);
        }
        for (int n : new int[] {0, 41, 42, 50, 99}) {
            refused("draw " + n + ";elect by 1", 5, 1);
            refused("draw 40;draw " + n + ";elect by 1", 13, 1);
            refused("draw 40;elect by " + n, 17, 1);
            refused("draw 40;choose " + n + " by 1;elect by 1", 15, 1);
            refused("draw 40;choose 1 by " + n + ";elect by 1", 20, 1);
        }
        refused("draw 00;elect by 1", 5, 1);
        refused("draw 5;elect by 00", 16, 1);
    }

    private static void limitsToNine() {
        for (int h = 1; h <= 9; h++) {
            taken("draw 9;choose 9 by 1 house " + h + ";elect by 1", 3);
        }
        for (String h : new String[] {"0", "00", "10", "11", "40", "99"}) {
            refused("draw 9;choose 9 by 1 house " + h + ";elect by 1", 27, 1);
        }
    }

    private static void words() {
        for (char letter = 'a'; letter <= 'z'; letter++) {
            refused("draw" + letter + " 5;elect by 1", 0, 0);
            refused(letter + "draw 5;elect by 1", 0, 0);
            refused("draw 5;elect" + letter + " by 1", 7, 0);
            refused("draw 5;elect by" + letter + " 1", 13, 0);
        }
        refused("Draw 5;elect by 1", 0, 0);
        refused("DRAW 5;elect by 1", 0, 0);
        refused("drawn 5;elect by 1", 0, 0);
        refused("dra 5;elect by 1", 0, 0);
        refused("drow 5;elect by 1", 0, 0);
        refused("drawdraw 5;elect by 1", 0, 0);
        refused("drawelect 5;elect by 1", 0, 0);
        refused("d raw 5;elect by 1", 0, 0);
        refused("drAw 5;elect by 1", 0, 0);
        refused("draW 5;elect by 1", 0, 0);
        // The bytes next to the small letters: ` and {
        refused("`draw 5;elect by 1", 0, 0);
        refused("draw{5;elect by 1", 4, 0);
        refused("draw`5;elect by 1", 4, 0);
        refused("draw 5;elects by 1", 7, 0);
        refused("draw 5;elec by 1", 7, 0);
        refused("draw 5;electby 1", 7, 0);
        refused("draw 5;elect byx 1", 13, 0);
        refused("draw 5;elect b 1", 13, 0);
        refused("draw 5;elect bye 1", 13, 0);
        refused("draw 5;elect yb 1", 13, 0);
        refused("draw 5;chooses 3 by 1;elect by 1", 7, 0);
        refused("draw 5;chose 3 by 1;elect by 1", 7, 0);
        refused("draw 5;choose 3 byhouse 1;elect by 1", 16, 0);
        refused("draw 5;choose 3 by 1 hous 1;elect by 1", 21, 0);
        refused("draw 5;choose 3 by 1 houses 1;elect by 1", 21, 0);
        refused("draw 5;choose 3 by 1 mouse 1;elect by 1", 21, 0);
    }

    private static void blanks() {
        taken("draw 5;choose 3 by 2 house 1;elect by 1", 3);
        taken("draw5;choose3by2house1;elect by1", 3);
        taken("  draw  5  ;  choose  3  by  2  house  1  ;  elect  by  1  ", 3);
        refused("draw\t5;elect by 1", 4, 0);
        refused("draw\n5;elect by 1", 4, 0);
        refused("draw\0005;elect by 1", 4, 0);
        refused("draw\u00a05;elect by 1", 4, 0);
        refused("draw!5;elect by 1", 4, 0);
        refused("draw 5;elect by 1\0", 17, 0);
        refused("draw 5;elect by 1 \n", 18, 0);
        refused("dr aw 5;elect by 1", 0, 0);
        refused("draw 5;el ect by 1", 7, 0);
    }

    private static void firstIsDraw() {
        taken("draw 5;elect by 1", 2);
        refused("choose 5 by 1;elect by 1", 0, 0);
        refused("elect by 1", 0, 0);
    }

    private static void lastIsElect() {
        taken("draw 5;draw 5;elect by 1", 3);
        refused("draw 5;draw 5", 13, 0);
        refused("draw 5;draw 5;choose 3 by 1", 27, 0);
        refused("draw 5;draw 5;choose 3 by 1 house 1", 35, 0);
    }

    private static void noneBetweenIsElect() {
        taken("draw 5;choose 3 by 1;draw 2;elect by 1", 4);
        refused("draw 5;elect by 1;draw 2;elect by 1", 17, 0);
        refused("draw 5;elect by 1;elect by 1", 17, 0);
    }

    // ---- the body

    private static void bodyAtFirst() {
        ElectionHouse x = city("00", "10", "20", "30");
        leave(x, 1);
        take(x, "draw 2;elect by 1");
        bodyIs(x, 0, 2, 3);
        come(x, 1);
        leave(x, 0, 3);
        bodyIs(x, 1, 2);
        leave(x, 1, 2);
        bodyIs(x);
    }

    private static void bodyBehindDraw() {
        ElectionHouse x = full();
        take(x, "draw 40;draw 17;draw 1;elect by 1");
        lots(x, new int[58]);
        for (int n : new int[] {40, 17, 1}) {
            steps(x, 0);
            same("of the body", x.count(5), n);
            same("the last of it", x.body(n - 1), n - 1);
            same("behind it", x.body(n), -1);
        }
    }

    private static void bodyBehindChoose() {
        // A body of two chooses four, among them such as were not in it.
        ElectionHouse x = city("00", "10", "20", "30", "40", "50");
        take(x, "draw 2;choose 4 by 1;elect by 1");
        lots(x, 4, 4);
        steps(x, 0);
        bodyIs(x, 4, 5);
        steps(x, 0);
        bodyIs(x, 0, 1, 2, 3);
    }

    private static void bodyBehindElect() {
        ElectionHouse x = city("00", "10", "20", "30");
        take(x, "draw 3;elect by 2");
        lots(x, 3, 1, 1);
        steps(x, 0, 0);
        same("elected", x.elected(), 0);
        bodyIs(x, 3, 1, 2);
        leave(x, 1);
        bodyIs(x, 3, 1, 2);
    }

    // ---- faults

    private static void firstFault() {
        refused("draw 0;draw 41;elect by 0", 5, 1);
        refused("draw 5;draw 6;vote by 1", 12, 3);
        refused("draw 5;draw 0;elect by 6", 12, 1);
        refused("draw 5;choose 0 by 6;elect by 9", 14, 1);
        refused("draw 5;choose 9 by 6 hous 1;elect by 1", 19, 3);
        refused("draw 5;elect by 6;", 16, 3);
        refused("drow 0", 0, 0);
        refused(nines(12) + ";draw 0", 84, 2);
        refused("draw 9;draw 10;" + nines(12), 12, 3);
    }

    private static void everyPlace() {
        for (int blanks = 0; blanks <= 283; blanks++) {
            String ahead = " ".repeat(blanks);
            same("place " + (blanks + 5), take(new ElectionHouse(), ahead + "draw 0;elect by 1"), -3 - 8 * (blanks + 5) - 1);
        }
        ElectionHouse x = new ElectionHouse();
        same("place 0, number 0", x.procedure(), -3);
        same("place 0, number 0", take(x, ";"), -3);
        same("place 5, number 1", take(x, "draw 0"), -44);
        same("place 12, number 3", take(x, "draw 5;draw 6"), -102);
        same("place 84, number 2", take(x, nines(13)), -677);
        same("place 300, number 0", take(x, " ".repeat(300)), -2403);
    }

    private static void cantStand() {
        for (int b = 0; b < 256; b++) {
            String here = String.valueOf((char) b);
            boolean isDigit = b >= '0' && b <= '9';
            String inside = "draw 5" + here + ";elect by 1";
            String ahead = here + "draw 5;elect by 1";
            String behind = "draw 5;elect by 5" + here;
            if (b == ' ') {
                taken(inside, 2);
                taken(ahead, 2);
                taken(behind, 2);
                continue;
            }
            refused(inside, isDigit ? 5 : b == ';' ? 7 : 6, isDigit ? 1 : 0);
            refused(ahead, 0, 0);
            refused(behind, isDigit ? 16 : 17, isDigit ? 1 : 0);
        }
        refused("draw -5;elect by 1", 5, 0);
        refused("draw +5;elect by 1", 5, 0);
        refused("draw 5;vote by 1", 7, 0);
    }

    private static void firstNoDraw() {
        refused("choose 3 by 2;elect by 1", 0, 0);
        refused("  choose 3 by 2;elect by 1", 2, 0);
        refused("elect by 1", 0, 0);
        refused("   elect by 1", 3, 0);
        refused("by 1", 0, 0);
        refused("house 1", 0, 0);
    }

    private static void semicolonBehindElect() {
        refused("draw 5;elect by 5;", 17, 0);
        refused("draw 5;elect by 5 ;", 18, 0);
        refused("draw 5;elect by 5;draw 3;elect by 1", 17, 0);
        // Behind a twelfth step that is elect, the ; comes ahead of the 13th step.
        refused(nines(11) + ";elect by 9;elect by 9", nines(11).length() + 11, 0);
    }

    /** Each beginning of a good text ends too early, or with a piece of a word. */
    private static void everyEnd() {
        String text = "draw 12;choose 3 by 2 house 1;elect by 1";
        for (int n = 0; n < text.length(); n++) {
            String begun = text.substring(0, n);
            String piece = begun.replaceAll(".*[^a-z]", "");
            boolean isWord = piece.isEmpty() || piece.matches("draw|choose|by|house|elect");
            refused(begun, isWord ? n : n - piece.length(), 0);
            if (isWord) {
                refused(begun + "  ", n + 2, 0);
            }
        }
        taken(text, 3);
        refused("", 0, 0);
    }

    private static void endWithoutElect() {
        refused("draw 5", 6, 0);
        refused("draw 5  ", 8, 0);
        refused("draw 5;", 7, 0);
        refused("draw 5; ", 8, 0);
        refused("draw 5;draw 4", 13, 0);
        refused("draw 5;choose 9 by 5", 20, 0);
        refused("draw 5;choose 9 by 5 house 1", 28, 0);
        refused(nines(12), 83, 0);
        refused(nines(12) + ";", 84, 0);
    }

    private static void numberNotAsTold() {
        refused("draw 0;elect by 1", 5, 1);
        refused("draw 41;elect by 1", 5, 1);
        refused("draw   41;elect by 1", 7, 1);
        refused("draw 005;elect by 1", 5, 1);
        refused("draw 5;elect by 0", 16, 1);
        refused("draw 5;choose 41 by 5;elect by 1", 14, 1);
        refused("draw 5;choose 9 by 41;elect by 1", 19, 1);
        refused("draw 5;choose 9 by 5 house 10;elect by 1", 27, 1);
        refused("draw 0", 5, 1);
    }

    private static void thirteenthStep() {
        refused(nines(13), 84, 2);
        refused(nines(12) + ";elect by 9", 84, 2);
        refused(nines(12) + ";choose 1 by 1", 84, 2);
        refused(nines(12) + " ;  elect by 9", 87, 2);
        refused(nines(12) + ";elect", 84, 2);
    }

    private static void drawAboveBody() {
        for (int n = 1; n <= 40; n++) {
            refusedAbove(n, "draw " + n + ";draw ", ";elect by 1", 3);
            refusedAbove(n, "draw 1;choose " + n + " by 1;draw ", ";elect by 1", 4);
        }
        refused("draw 5;draw 4;draw 5;elect by 1", 19, 3);
        taken("draw 40;elect by 1", 2);
    }

    private static void votesAboveBody() {
        for (int n = 1; n <= 40; n++) {
            refusedAbove(n, "draw " + n + ";elect by ", "", 2);
            refusedAbove(n, "draw " + n + ";choose 1 by ", ";elect by 1", 3);
            refusedAbove(n, "draw 1;choose " + n + " by 1;elect by ", "", 3);
            refusedAbove(n, "draw 1;choose " + n + " by 1;choose 1 by ", " house 1;elect by 1", 4);
        }
        // The choice's own number does not matter to its votes: 5 of 9 voters, and 6 of 5.
        taken("draw 9;choose 5 by 9;elect by 5", 3);
        refused("draw 5;choose 9 by 6;elect by 1", 19, 3);
        refused("draw 5;choose 9 by 5;elect by 10", 30, 3);
    }

    /** The number as high as the body is met; one more is not, or is no number as told. */
    private static void refusedAbove(int body, String ahead, String behind, int steps) {
        taken(ahead + body + behind, steps);
        refused(ahead + (body + 1) + behind, ahead.length(), body == 40 ? 1 : 3);
    }

    private static void leastNumber() {
        // Not as told, and can't be met
        refused("draw 5;draw 41;elect by 1", 12, 1);
        refused("draw 5;draw 006;elect by 1", 12, 1);
        refused("draw 5;elect by 99", 16, 1);
        refused("draw 5;choose 9 by 41;elect by 1", 19, 1);
        // A word that can't stand, or the end, where the 13th step would begin
        refused(nines(12) + ";drow 9", 84, 0);
        refused(nines(12) + ";by 9", 84, 0);
        refused(nines(12) + ";;", 84, 0);
        refused(nines(12) + ";9", 84, 0);
        refused(nines(12) + ";", 84, 0);
    }

    private static void askedAsDone() {
        ElectionHouse x = city("00", "10");
        same("taken", take(x, "draw 40;elect by 40"), 2);
        lots(x, new int[40]);
        steps(x, 2);
        same("taken", take(x, "draw 1;choose 40 by 1;elect by 40"), 3);
        steps(x, 0, 2);
        same("taken without citizens", take(new ElectionHouse(), "draw 40;elect by 40"), 2);
    }
}
