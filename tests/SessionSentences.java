import java.io.IOException;

/** The second part of the document's terms: a session with its lots, steps and protests. */
public final class SessionSentences extends Sentences {
    public static void main(String[] args) throws IOException {
        open(args);
        lotsTold();
        draw();
        choose();
        answers();
        close();
    }

    private static void lotsTold() {
        part("==== II.", "DRAW N of the BODY");
        sentence("A SESSION begins with BODY and no STEP done.", SessionSentences::begins);
        sentence("LOTS: numbers 0 to 9999,", SessionSentences::lotValues);
        sentence("told ahead (500 at most wait),", SessionSentences::fiveHundredWait);
        sentence("used one by one.", SessionSentences::oneByOne);
    }

    private static void draw() {
        part("used one by one.", "CHOOSE N by M, house H:");
        sentence("DRAW N of the BODY (those who are not there, too;", SessionSentences::absentAreDrawn);
        sentence("in its order: by numbers at first, then as drawn or chosen):", SessionSentences::orderOfTheBody);
        sentence("N times: with R left in the BODY a LOT v is looked at:", SessionSentences::fewerAreLeft);
        sentence("not below R * (10000 / R, downwards): it is passed over, the next one;",
                SessionSentences::passedOver);
        sentence("else the one at place v % R of those left is drawn and goes out of the row.",
                SessionSentences::placeOfThoseLeft);
        sentence("The drawn ones in their order are the BODY.", SessionSentences::drawnInTheirOrder);
    }

    private static void choose() {
        part("The drawn ones in their order are the BODY.", "A STEP done tells:");
        sentence("CHOOSE N by M, house H: CITIZENS that are there, by numbers, one by one, until N are chosen:",
                SessionSentences::untilChosen);
        sentence("BARRED by house, if H of his HOUSE were chosen already in this STEP;", SessionSentences::barred);
        sentence("else voted on: yes of all of the BODY who are there,", SessionSentences::votersAreThere);
        sentence("not KIN of him (nor he himself),", SessionSentences::votersAreNoKin);
        sentence("whose PARTY says yes to his;", SessionSentences::votersSayYes);
        sentence("chosen with M or more.", SessionSentences::votesEnough);
        sentence("ELECT by M: likewise by votes alone:", SessionSentences::electedByVotesAlone);
        sentence("the first with M or more is ELECTED.", SessionSentences::firstIsElected);
    }

    private static void answers() {
        part("the first with M or more is ELECTED.", "==== III.");
        sentence("A STEP done tells: 0 done;", SessionSentences::tellsDone);
        sentence("1 LOTS lack (none is used, nothing is done);", SessionSentences::tellsLotsLack);
        sentence("2 it can't FILL: the BODY has fewer than N,", SessionSentences::tellsBodyTooSmall);
        sentence("or no more CITIZENS are left to be voted on", SessionSentences::tellsNobodyLeft);
        sentence("(no LOT is used; the SESSION stands there);", SessionSentences::standsThere);
        sentence("3 there is no PROCEDURE, or all STEPS are done.", SessionSentences::tellsNoStep);
        sentence("A PROTEST against a STEP that is done: it and all behind it are as not done (BODY as ahead of it;",
                SessionSentences::protestUndoes);
        sentence("LOTS that were used stay used).", SessionSentences::lotsStayUsed);
        sentence("What is told of CITIZENS (there, KIN, HOUSES, the table) holds for STEPS that are done from then on.",
                SessionSentences::holdsFromThenOn);
    }

    // ---- lots

    private static void begins() {
        ElectionHouse x = city("00", "10", "20");
        take(x, "draw 2;elect by 1");
        same("none done", x.count(4), 0);
        bodyIs(x, 0, 1, 2);
        lots(x, 2, 1, 0);
        steps(x, 0, 0);
        same("elected", x.elected(), 0);
        take(x, "draw 1;elect by 1");
        same("none done", x.count(4), 0);
        same("nobody is elected", x.elected(), -1);
        bodyIs(x, 0, 1, 2);
        steps(x, 0);
        bodyIs(x, 0);
    }

    private static void lotValues() {
        ElectionHouse x = city("00");
        for (int v : new int[] {-1, 10000, Integer.MIN_VALUE, Integer.MAX_VALUE}) {
            same("no lot " + v, x.lot(v), -1);
        }
        same("none waits", x.count(6), 0);
        same("the least", x.lot(0), 1);
        same("the highest", x.lot(9999), 2);
        same("two wait", x.count(6), 2);
    }

    private static void fiveHundredWait() {
        ElectionHouse x = city("00");
        for (int i = 1; i <= 500; i++) {
            same("lot " + i, x.lot(9999), i);
        }
        same("the 501st", x.lot(0), -1);
        same("500 wait", x.count(6), 500);
        feed(x, "draw 1;elect by 1");
        x.procedure();
        same("draw", x.step(), 0);
        same("room for one", x.lot(0), 500);
        same("and no more", x.lot(0), -1);
    }

    private static void oneByOne() {
        ElectionHouse x = city("00", "10", "20", "30");
        take(x, "draw 1;elect by 1");
        int[] told = {3, 1, 2, 0};
        lots(x, told);
        for (int i = 0; i < told.length; i++) {
            steps(x, 0);
            bodyIs(x, told[i]);
            lotsAre(x, 3 - i, i + 1);
            x.protest(0);
        }
        steps(x, 1);
        lotsGoOnBehindFiveHundred();
    }

    /** More than 500 lots are told in all: 493 of them passed over at once, so that calls are left. */
    private static void lotsGoOnBehindFiveHundred() {
        ElectionHouse x = city("00", "10", "20");
        feed(x, "draw 1;elect by 1");
        x.procedure();
        for (int i = 0; i < 493; i++) {
            x.lot(9999);
        }
        lots(x, 1);
        same("draw", x.step(), 0);
        x.protest(0);
        lots(x, 9999, 9999, 9999, 9999, 9999, 9999, 2);
        same("draw", x.step(), 0);
        same("drawn by the 501st", x.body(0), 2);
    }

    // ---- draw

    private static void absentAreDrawn() {
        ElectionHouse x = city("00", "10", "20");
        take(x, "draw 2;draw 2;elect by 1");
        lots(x, 0, 0, 0, 0);
        steps(x, 0);
        leave(x, 0, 1);
        bodyIs(x, 0, 1);
        steps(x, 0);
        bodyIs(x, 0, 1);
        // Ahead of the first step the body has nobody who is not there.
        ElectionHouse y = city("00", "10", "20");
        leave(y, 0);
        take(y, "draw 2;elect by 1");
        lots(y, 0, 0);
        steps(y, 0);
        bodyIs(y, 1, 2);
    }

    private static void orderOfTheBody() {
        ElectionHouse x = city("00", "10", "20", "30", "40");
        leave(x, 1);
        take(x, "draw 3;draw 1;elect by 1");
        lots(x, 2, 0, 1);
        steps(x, 0);
        // By numbers: of 0 2 3 4 the third, of 0 2 4 the first, of 2 4 the second
        bodyIs(x, 3, 0, 4);
        lots(x, 0);
        steps(x, 0);
        bodyIs(x, 3);
        x.protest(1);
        lots(x, 2);
        steps(x, 0);
        bodyIs(x, 4);
        ElectionHouse y = city("00", "10", "20", "30", "40");
        take(y, "draw 2;choose 3 by 1;draw 1;elect by 1");
        lots(y, 4, 3, 2);
        steps(y, 0, 0);
        bodyIs(y, 0, 1, 2);
        steps(y, 0);
        bodyIs(y, 2);
    }

    private static void fewerAreLeft() {
        ElectionHouse x = city("00", "10", "20", "30", "40", "50", "60");
        take(x, "draw 7;elect by 1");
        // The same lot at each of 7 to 1 left: 9 % 7, 9 % 6 and so on
        lots(x, 9, 9, 9, 9, 9, 9);
        steps(x, 1);
        lots(x, 9);
        steps(x, 0);
        bodyIs(x, 2, 4, 6, 1, 0, 5, 3);
        lotsAre(x, 0, 7);
        ElectionHouse y = city("00", "10", "20", "30", "40", "50", "60");
        take(y, "draw 5;elect by 1");
        // 7 left: 9996 is passed over; 6: 9996 too; 5: 9999 is not; 4: nor here; 3: it is
        lots(y, 9996, 9995, 9996, 9995, 9999, 9999, 9999, 9998);
        steps(y, 0);
        bodyIs(y, 6, 5, 4, 3, 2);
        lotsAre(y, 0, 8);
    }

    private static void passedOver() {
        for (int left = 1; left <= 40; left++) {
            int bound = left * (10000 / left);
            ElectionHouse x = ofParties(left);
            take(x, "draw 1;elect by 1");
            if (bound < 10000) {
                lots(x, bound, 9999);
                steps(x, 1);
                lotsAre(x, 2, 0);
            }
            lots(x, bound - 1, 5);
            steps(x, 0);
            bodyIs(x, left - 1);
            lotsAre(x, 1, bound < 10000 ? 3 : 1);
        }
    }

    private static void placeOfThoseLeft() {
        ElectionHouse x = city("00", "10", "20", "30", "40");
        take(x, "draw 5;elect by 1");
        // 0 1 2 3 4: the third; 0 1 3 4: the third; 0 1 4: the third; 0 1: the second; 0
        lots(x, 7, 6, 8, 1, 77);
        steps(x, 0);
        bodyIs(x, 2, 3, 4, 1, 0);
        ElectionHouse y = full();
        take(y, "draw 40;elect by 1");
        lots(y, new int[40]);
        steps(y, 0);
        for (int k = 0; k < 40; k++) {
            same("each once", y.body(k), k);
        }
    }

    private static void drawnInTheirOrder() {
        ElectionHouse x = city("00", "10", "20", "30");
        take(x, "draw 3;draw 3;elect by 1");
        lots(x, 3, 2, 1, 2, 1, 0);
        steps(x, 0);
        bodyIs(x, 3, 2, 1);
        steps(x, 0);
        bodyIs(x, 1, 2, 3);
    }

    // ---- choose and elect

    private static void untilChosen() {
        ElectionHouse x = city("00", "11", "20", "30", "40", "50");
        leave(x, 2);
        take(x, "draw 2;choose 2 by 1;elect by 1");
        lots(x, 4, 3);
        steps(x, 0);
        bodyIs(x, 5, 4);
        steps(x, 0);
        // 0 is chosen, 1 is not, 2 is not there, 3 is the second: 4 and 5 are not voted on
        bodyIs(x, 0, 3);
        ballotIs(x, 0, 3, 2);
        votesAre(x, 2, 0, -1, 2, -1, -1);
        // The last citizen may be the one who fills it.
        ElectionHouse y = city("00", "11", "21");
        take(y, "draw 1;choose 1 by 1;elect by 1");
        lots(y, 1);
        steps(y, 0, 0);
        bodyIs(y, 2);
        ballotIs(y, 0, 3, 1);
    }

    private static void barred() {
        for (int limit = 1; limit <= 9; limit++) {
            ElectionHouse x = tenOfOneHouse();
            take(x, "draw 1;choose " + (limit + 1) + " by 1 house " + limit + ";elect by 1");
            lots(x, 10);
            steps(x, 0, 0);
            same("the last chosen one, with " + limit, x.body(limit), 11);
            ballotIs(x, 10 - limit, limit + 2, limit + 1);
            votesAre(x, 1);
            same("voted on as the last of his house", x.ballot(99 + limit), 1);
            same("barred, so not voted on", x.ballot(100 + limit), -1);
        }
        ElectionHouse x = tenOfOneHouse();
        take(x, "draw 1;choose 10 by 1;choose 1 by 1 house 1;elect by 1");
        lots(x, 10);
        steps(x, 0, 0);
        ballotIs(x, 0, 10, 10);
        same("without house nobody is barred", x.body(9), 9);
        // He who was voted on in vain does not count for his house; another house is not barred.
        ElectionHouse y = city("01", "00", "00", "10", "10", "20");
        take(y, "draw 1;choose 2 by 1 house 1;choose 1 by 1 house 1;elect by 1");
        lots(y, 5);
        steps(y, 0, 0);
        bodyIs(y, 1, 3);
        ballotIs(y, 1, 3, 2);
        votesAre(y, 0, 1, -1, 1, -1, -1);
        // A further step begins with nobody chosen: 1 is kin of nobody but himself and 2.
        steps(y, 0);
        bodyIs(y, 1);
        ballotIs(y, 0, 2, 1);
    }

    /** Ten of house 0, then the one who votes, then one of a third house. */
    private static ElectionHouse tenOfOneHouse() {
        return city("00", "00", "00", "00", "00", "00", "00", "00", "00", "00", "10", "20");
    }

    private static void votersAreThere() {
        ElectionHouse x = city("00", "10", "20", "30");
        take(x, "draw 3;choose 1 by 2;elect by 1");
        lots(x, 1, 1, 1);
        steps(x, 0);
        bodyIs(x, 1, 2, 3);
        leave(x, 3);
        steps(x, 0);
        votesAre(x, 2, -1, -1, -1);
        x.protest(1);
        leave(x, 2);
        // 1 alone votes: 0 has one vote, 1 none
        steps(x, 2);
        votesAre(x, 1, 0, -1, -1);
        come(x, 2, 3);
        steps(x, 0);
        votesAre(x, 3, -1, -1, -1);
    }

    private static void votersAreNoKin() {
        ElectionHouse x = city("00", "00", "10", "20", "30");
        x.kin(4, 0);
        take(x, "draw 5;choose 5 by 1;elect by 1");
        lots(x, 0, 0, 0, 0, 0);
        steps(x, 0, 0);
        // 0: not himself, 1 of his house, 4 as told; 1: not himself and 0; 4: not himself and 0
        votesAre(x, 2, 3, 4, 4, 3);
        x.protest(1);
        x.turn(1, 5, 0);
        steps(x, 0);
        votesAre(x, 3, 4, 4, 4, 3);
        x.protest(1);
        x.kin(2, 3);
        x.turn(3, 1, 0);
        steps(x, 0);
        // Told and of one house: one voter less all the same
        votesAre(x, 3, 4, 3, 3, 3);
    }

    private static void votersSayYes() {
        ElectionHouse x = city("00", "11", "22", "33");
        take(x, "draw 4;choose 1 by 4;elect by 1");
        lots(x, 0, 0, 0, 0);
        steps(x, 0, 2);
        votesAre(x, 0, 0, 0, 0);
        x.says(0, 1, true);
        x.says(2, 1, true);
        x.says(3, 2, true);
        steps(x, 2);
        votesAre(x, 0, 2, 1, 0);
        x.says(0, 1, false);
        steps(x, 2);
        votesAre(x, 0, 1, 1, 0);
    }

    private static void votesEnough() {
        for (int m = 1; m <= 4; m++) {
            // 0 has 2 votes (of 2 and 3), 1 has 3
            ElectionHouse x = city("00", "01", "10", "20", "41");
            x.says(0, 1, true);
            take(x, "draw 4;choose 1 by " + m + ";elect by 1");
            lots(x, 1, 1, 1, 1);
            same("draw", x.step(), 0);
            bodyIs(x, 1, 2, 3, 4);
            same("by " + m, x.step(), m <= 3 ? 0 : 2);
            same("chosen by " + m, x.body(0), m <= 2 ? 0 : 1);
        }
    }

    private static void electedByVotesAlone() {
        // The choice bars the second one of house 0; the election does not look at houses.
        ElectionHouse x = city("01", "00", "00", "10", "20");
        take(x, "draw 1;choose 2 by 1 house 1;elect by 1");
        lots(x, 3);
        steps(x, 0, 0);
        bodyIs(x, 1, 4);
        ballotIs(x, 1, 4, 2);
        leave(x, 1);
        steps(x, 0);
        // 4 votes for 2, who was barred
        same("elected", x.elected(), 2);
        ballotIs(x, 0, 2, 1);
        votesAre(x, 0, -1, 1, -1, -1);
    }

    private static void firstIsElected() {
        ElectionHouse x = city("00", "00", "10", "20");
        take(x, "draw 3;elect by 3");
        lots(x, 1, 1, 1);
        steps(x, 0);
        bodyIs(x, 1, 2, 3);
        steps(x, 2);
        same("nobody", x.elected(), -1);
        ballotIs(x, 0, 4, 0);
        votesAre(x, 2, 2, 2, 2);
        take(x, "draw 3;elect by 2");
        lots(x, 1, 1, 1);
        steps(x, 0, 0);
        same("the first", x.elected(), 0);
        ballotIs(x, 0, 1, 1);
        // The first who is there; he need not be of the body.
        x.protest(1);
        leave(x, 0);
        x.turn(1, 5, 0);
        steps(x, 0);
        same("the first who is there", x.elected(), 1);
        ballotIs(x, 0, 1, 1);
    }

    // ---- what a step tells

    private static void tellsDone() {
        ElectionHouse x = city("00", "10");
        take(x, "draw 2;choose 2 by 1;elect by 1");
        lots(x, 0, 0);
        for (int done = 1; done <= 3; done++) {
            same("step " + done, x.step(), 0);
            same("done", x.count(4), done);
        }
    }

    private static void tellsLotsLack() {
        ElectionHouse x = city("00", "10", "20");
        take(x, "draw 2;elect by 1");
        steps(x, 1);
        // Passed over, then one drawn, then one more lacks
        lots(x, 9999, 2);
        steps(x, 1, 1);
        lotsAre(x, 2, 0);
        same("nothing is done", x.count(4), 0);
        bodyIs(x, 0, 1, 2);
        same("citizens may come still", x.citizen(3, 0), 3);
        // Of four left 9999 is a lot to be used, so the same two lots are enough now.
        steps(x, 0);
        bodyIs(x, 3, 2);
        lotsAre(x, 0, 2);
        ElectionHouse y = city("00", "10", "20");
        take(y, "draw 3;draw 3;elect by 1");
        lots(y, 2, 1, 0, 1, 1);
        steps(y, 0, 1);
        lotsAre(y, 2, 3);
        bodyIs(y, 2, 1, 0);
        same("one is done", y.count(4), 1);
        same("nobody came", y.citizen(0, 0), -1);
    }

    private static void tellsBodyTooSmall() {
        ElectionHouse x = city("00", "10", "20");
        take(x, "draw 4;elect by 1");
        steps(x, 2);
        lots(x, 0, 0, 0, 0);
        steps(x, 2);
        take(x, "draw 3;elect by 1");
        leave(x, 1);
        steps(x, 2);
        lotsAre(x, 4, 0);
        come(x, 1);
        steps(x, 0);
        bodyIs(x, 0, 1, 2);
        ElectionHouse nobody = new ElectionHouse();
        take(nobody, "draw 1;elect by 1");
        steps(nobody, 2);
        // Of those who left behind a step the body still has them.
        ElectionHouse y = city("00", "10");
        take(y, "draw 2;draw 2;elect by 1");
        lots(y, 0, 0, 0, 0);
        steps(y, 0);
        leave(y, 0, 1);
        steps(y, 0, 2);
    }

    private static void tellsNobodyLeft() {
        // Too few votes
        ElectionHouse x = city("00", "10", "21");
        take(x, "draw 3;choose 3 by 1;elect by 1");
        lots(x, 0, 0, 0);
        steps(x, 0, 2);
        ballotIs(x, 0, 3, 2);
        // Too many barred
        ElectionHouse y = city("00", "00", "10", "20");
        take(y, "draw 4;choose 4 by 1 house 1;elect by 1");
        lots(y, 0, 0, 0, 0);
        steps(y, 0, 2);
        ballotIs(y, 1, 3, 3);
        // Fewer citizens than are to be chosen
        ElectionHouse z = city("00", "10");
        take(z, "draw 2;choose 3 by 1;elect by 1");
        lots(z, 0, 0);
        steps(z, 0, 2);
        ballotIs(z, 0, 2, 2);
        // Nobody is there
        leave(z, 0, 1);
        steps(z, 2);
        ballotIs(z, 0, 0, 0);
        // An election
        ElectionHouse w = city("00", "11");
        take(w, "draw 1;elect by 1");
        lots(w, 0);
        steps(w, 0, 2);
        ballotIs(w, 0, 2, 0);
    }

    private static void standsThere() {
        ElectionHouse x = city("00", "10", "21");
        take(x, "draw 3;choose 3 by 1;elect by 1");
        lots(x, 2, 1, 0, 7);
        steps(x, 0, 2, 2);
        same("one is done", x.count(4), 1);
        bodyIs(x, 2, 1, 0);
        lotsAre(x, 1, 3);
        same("not done, so no protest", x.protest(1), false);
        x.says(0, 1, true);
        steps(x, 0, 0, 3);
        ElectionHouse y = city("00", "10");
        take(y, "draw 3;elect by 1");
        lots(y, 1, 1);
        steps(y, 2, 2);
        lotsAre(y, 2, 0);
        same("none is done", y.count(4), 0);
        bodyIs(y, 0, 1);
        y.citizen(2, 0);
        lots(y, 1);
        steps(y, 0);
    }

    private static void tellsNoStep() {
        ElectionHouse x = city("00", "10");
        lots(x, 1, 1, 1);
        steps(x, 3);
        take(x, "draw 2;elect by 3");
        steps(x, 3);
        lotsAre(x, 3, 0);
        take(x, "draw 2;elect by 1");
        steps(x, 0, 0, 3, 3);
        lotsAre(x, 1, 2);
        same("two are done", x.count(4), 2);
        same("elected", x.elected(), 0);
        x.protest(1);
        steps(x, 0, 3);
    }

    // ---- protest, and what is told

    private static void protestUndoes() {
        ElectionHouse x = city("00", "10", "20", "30");
        take(x, "draw 3;draw 2;choose 1 by 1;elect by 1");
        lots(x, 3, 0, 0, 1, 0);
        steps(x, 0, 0, 0, 0);
        same("elected", x.elected(), 1);
        same("the election alone", x.protest(3), true);
        same("nobody", x.elected(), -1);
        same("three are done", x.count(4), 3);
        bodyIs(x, 0);
        same("the choice", x.protest(2), true);
        bodyIs(x, 0, 3);
        steps(x, 0, 0);
        bodyIs(x, 0);
        same("the second draw and all behind it", x.protest(1), true);
        same("one is done", x.count(4), 1);
        same("nobody", x.elected(), -1);
        bodyIs(x, 3, 0, 1);
        same("those behind it are not done either", x.protest(2), false);
        same("the first", x.protest(0), true);
        same("none is done", x.count(4), 0);
        bodyIs(x, 0, 1, 2, 3);
        same("nothing is left", x.protest(0), false);
    }

    private static void lotsStayUsed() {
        ElectionHouse x = city("00", "10", "20", "30");
        take(x, "draw 2;draw 1;elect by 1");
        lots(x, 3, 0, 1);
        steps(x, 0, 0);
        lotsAre(x, 0, 3);
        x.protest(0);
        lotsAre(x, 0, 3);
        steps(x, 1);
        lots(x, 1, 1);
        steps(x, 0);
        bodyIs(x, 1, 2);
        lotsAre(x, 0, 5);
    }

    private static void holdsFromThenOn() {
        ElectionHouse x = city("00", "10", "20", "30");
        take(x, "draw 3;choose 2 by 2;elect by 1");
        lots(x, 0, 0, 0);
        steps(x, 0, 0);
        bodyIs(x, 0, 1);
        ballotIs(x, 0, 2, 2);
        // What was done stays as it was.
        leave(x, 0);
        x.kin(0, 1);
        x.turn(1, 0, 3);
        x.says(0, 0, false);
        bodyIs(x, 0, 1);
        ballotIs(x, 0, 2, 2);
        votesAre(x, 2, 2, -1, -1);
        same("two are done", x.count(4), 2);
        // What is done goes by it: nobody of the body votes for anybody.
        steps(x, 2);
        votesAre(x, -1, 0, 0, 0);
        come(x, 0);
        x.says(3, 0, true);
        steps(x, 0);
        // 1 is of party 3 now, and kin of 0 by house and as told: 2 is the first with his vote
        same("elected", x.elected(), 2);
        votesAre(x, 0, 0, 1, -1);
        same("stays elected", x.there(2, false), true);
        same("stays elected", x.elected(), 2);
    }
}
