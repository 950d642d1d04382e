import java.math.BigInteger;
import java.nio.charset.StandardCharsets;

/** For each promise of the document: ordinary inputs, the edges that it names, and wrong inputs. */
public final class PromiseTests {
    private static int passed = 0;
    private static int failed = 0;

    public static void main(String[] args) {
        newObject();
        citizen();
        there();
        kin();
        says();
        turn();
        feedAndEnd();
        procedureTaken();
        procedureFaults();
        procedureKeepsTheOneAhead();
        lot();
        stepDraw();
        stepChoose();
        stepElect();
        stepOrder();
        protest();
        body();
        ballot();
        elected();
        chancesOfOneDraw();
        chancesThatCannotFill();
        chancesGoByPartiesAlone();
        chancesSpentByWays();
        chancesSpentByBodies();
        waysStay();
        about();
        count();
        System.out.println(passed + " passed, " + failed + " failed");
        if (failed != 0) {
            System.exit(1);
        }
    }

    // ---- promise 1

    private static void newObject() {
        ElectionHouse x = new ElectionHouse();
        same("NONE", ElectionHouse.NONE, -1);
        for (int what = 0; what <= 8; what++) {
            same("new count " + what, x.count(what), 0);
        }
        same("new elected", x.elected(), -1);
        same("new body", x.body(0), -1);
        same("new step", x.step(), 3);
        same("new chances", x.chances(), -1);
        same("new protest", x.protest(0), false);
        same("new ballot", x.ballot(0), -1);
        same("new ways", x.ways(41), -1);
        same("new about", x.about(0, 0), -1);
    }

    // ---- promise 2

    private static void citizen() {
        ElectionHouse x = new ElectionHouse();
        same("house -1", x.citizen(-1, 0), -1);
        same("house 12", x.citizen(12, 0), -1);
        same("party -1", x.citizen(0, -1), -1);
        same("party 4", x.citizen(0, 4), -1);
        same("far numbers", x.citizen(Integer.MIN_VALUE, Integer.MAX_VALUE), -1);
        same("still none", x.count(0), 0);
        for (int i = 0; i < 40; i++) {
            same("citizen " + i, x.citizen(i % 12, i % 4), i);
        }
        same("41st", x.citizen(0, 0), -1);
        same("40 citizens", x.count(0), 40);
        ElectionHouse y = city("00", "10");
        take(y, "draw 1;elect by 1");
        same("no step done yet", y.citizen(2, 0), 2);
        y.lot(0);
        same("draw", y.step(), 0);
        same("a step is done", y.citizen(3, 0), -1);
        same("protest", y.protest(0), true);
        same("undone", y.citizen(3, 0), 3);
        y.lot(0);
        same("draw again", y.step(), 0);
        take(y, "draw 1;elect by 1");
        same("a new session", y.citizen(4, 0), 4);
    }

    // ---- promise 3

    private static void there() {
        ElectionHouse x = city("00", "10", "20");
        same("is there", x.there(1, true), false);
        same("goes", x.there(1, false), true);
        same("is gone", x.there(1, false), false);
        same("body goes by it", x.count(5), 2);
        same("second of the body", x.body(1), 2);
        same("comes back", x.there(1, true), true);
        same("body of all", x.count(5), 3);
        same("nobody 3", x.there(3, false), false);
        same("nobody -1", x.there(-1, false), false);
        take(x, "draw 2;elect by 1");
        lots(x, 0, 0);
        x.step();
        x.there(0, false);
        same("behind a step the body stays", x.count(5), 2);
        same("he stays in it", x.body(0), 0);
        x.protest(0);
        same("ahead of all steps it goes by there again", x.body(0), 1);
        same("two of three", x.count(5), 2);
    }

    // ---- promise 4

    private static void kin() {
        ElectionHouse x = city("00", "00", "10", "20");
        same("told", x.kin(0, 2), true);
        same("told already", x.kin(0, 2), false);
        same("the other way round", x.kin(2, 0), false);
        same("one house may be told too", x.kin(0, 1), true);
        same("both one", x.kin(3, 3), false);
        same("none such", x.kin(0, 4), false);
        same("none such", x.kin(-1, 0), false);
        same("far", x.kin(Integer.MAX_VALUE, Integer.MIN_VALUE), false);
        same("pairs", x.count(2), 2);
        ElectionHouse y = full();
        int told = 0;
        for (int a = 0; a < 2; a++) {
            for (int b = a + 1; b < 40 && told < 60; b++) {
                same("pair " + a + " " + b, y.kin(a, b), true);
                told++;
            }
        }
        same("60 pairs", y.count(2), 60);
        same("the 61st", y.kin(30, 31), false);
        same("still 60 pairs", y.count(2), 60);
    }

    // ---- promise 5

    private static void says() {
        ElectionHouse x = city("00", "11");
        for (int a = 0; a < 4; a++) {
            for (int b = 0; b < 4; b++) {
                same("as at first", x.says(a, b, a == b), false);
                same("changed", x.says(a, b, a != b), true);
                same("changed back", x.says(a, b, a == b), true);
            }
        }
        same("no party 4", x.says(4, 0, true), false);
        same("no party -1", x.says(-1, 0, true), false);
        same("no party 4", x.says(0, 4, true), false);
        same("no party -1", x.says(0, -1, true), false);
        // The voters' party comes first: party 1 says yes to party 0, and not the other way round.
        ElectionHouse y = city("01", "10");
        y.there(1, false);
        take(y, "draw 1;elect by 1");
        y.lot(0);
        y.step();
        y.there(1, true);
        same("nobody says yes", y.step(), 2);
        y.says(0, 1, true);
        same("the other way round", y.step(), 2);
        y.says(1, 0, true);
        same("yes", y.step(), 0);
        same("he", y.elected(), 1);
    }

    // ---- promise 6

    private static void turn() {
        ElectionHouse x = city("00", "10");
        same("turns", x.turn(1, 11, 3), true);
        same("house", x.about(1, 0), 11);
        same("party", x.about(1, 1), 3);
        same("the party alone", x.turn(1, 11, 2), true);
        same("no citizen", x.turn(2, 0, 0), false);
        same("no citizen", x.turn(-1, 0, 0), false);
        same("no house", x.turn(0, 12, 1), false);
        same("no house", x.turn(0, -1, 1), false);
        same("no party", x.turn(0, 5, 4), false);
        same("no party", x.turn(0, 5, -1), false);
        same("house stays", x.about(0, 0), 0);
        same("party stays", x.about(0, 1), 0);
    }

    // ---- promises 7 and 8

    private static void feedAndEnd() {
        ElectionHouse x = new ElectionHouse();
        same("end of none", x.end(0), 0);
        same("end beyond", x.end(1), -1);
        for (int i = 1; i <= 15; i++) {
            same("feed " + i, x.feed(-1, 0, 1, 2, 3), 20 * i);
        }
        same("beyond 300", x.feed(0, 0, 0, 0, 0), -1);
        same("none came", x.count(8), 300);
        same("end -1", x.end(-1), -1);
        same("end 301", x.end(301), -1);
        same("end far", x.end(Integer.MIN_VALUE), -1);
        same("end 300", x.end(300), 300);
        same("end 281", x.end(281), 281);
        same("21 bytes are too many", x.feed(0, 0, 0, 0, 0), -1);
        same("end 280", x.end(280), 280);
        same("20 bytes", x.feed(0, 0, 0, 0, 0), 300);
        same("end 0", x.end(0), 0);
        // draw 1;elect by 1, the highest byte of each number first
        same("feed", x.feed(0x64726177, 0x20313b65, 0x6c656374, 0x20627920, 0x31000000), 20);
        same("end 17", x.end(17), 17);
        same("procedure", x.procedure(), 2);
        // Bytes above 127 are bytes that can't stand.
        x.feed(0x64726177, 0xff000000, 0, 0, 0);
        same("byte 255", x.procedure(), fault(4, 0));
    }

    // ---- promise 9

    private static void procedureTaken() {
        taken("draw 1;elect by 1", 2);
        taken("draw 40;elect by 40", 2);
        taken("draw 05;elect by 01", 2);
        taken("  draw  5  ;  elect  by  1  ", 2);
        taken("draw5;choose3by2house1;elect by1", 3);
        taken("draw 3; choose 2 by 2 house 1; elect by 1", 3);
        taken("draw 5;choose 9 by 5;elect by 9", 3);
        taken("draw 5;choose 40 by 5 house 9;draw 40;elect by 1", 4);
        taken("draw 5;draw 5;elect by 5", 3);
        taken("draw 9;draw 9;draw 9;draw 9;draw 9;draw 9;draw 9;draw 9;draw 9;draw 9;draw 9;elect by 9", 12);
        StringBuilder long300 = new StringBuilder("draw 1;");
        while (long300.length() < 290) {
            long300.append(' ');
        }
        taken(long300.append("elect by 1").toString(), 2);
    }

    private static void procedureFaults() {
        refused("", 0, 0);
        refused("   ", 3, 0);
        refused("choose 3 by 2;elect by 1", 0, 0);
        refused(" elect by 1", 1, 0);
        refused("Draw 5;elect by 1", 0, 0);
        refused("drawn 5;elect by 1", 0, 0);
        refused("dra 5;elect by 1", 0, 0);
        refused("5;elect by 1", 0, 0);
        refused(";", 0, 0);
        refused("draw", 4, 0);
        refused("draw  ", 6, 0);
        refused("draw;elect by 1", 4, 0);
        refused("draw x;elect by 1", 5, 0);
        refused("draw -5;elect by 1", 5, 0);
        refused("draw 0;elect by 1", 5, 1);
        refused("draw 00;elect by 1", 5, 1);
        refused("draw 41;elect by 1", 5, 1);
        refused("draw 005;elect by 1", 5, 1);
        refused("draw 123;elect by 1", 5, 1);
        refused("draw 99999999999999999999;elect by 1", 5, 1);
        refused("draw 5", 6, 0);
        refused("draw 5  ", 8, 0);
        refused("draw 5;", 7, 0);
        refused("draw 5; ", 8, 0);
        refused("draw 5;;elect by 1", 7, 0);
        refused("draw 5 6;elect by 1", 7, 0);
        refused("draw 5 by 1;elect by 1", 7, 0);
        refused("draw 5:elect by 1", 6, 0);
        refused("draw 5;vote by 1", 7, 0);
        refused("draw 5;by 1", 7, 0);
        refused("draw 5;draw 6;elect by 1", 12, 3);
        refused("draw 5;draw 41;elect by 1", 12, 1);
        refused("draw 5;draw 4;draw 5;elect by 1", 19, 3);
        refused("draw 5;elect by 6", 16, 3);
        refused("draw 5;elect by 0", 16, 1);
        refused("draw 5;elect 5", 13, 0);
        refused("draw 5;elect by", 15, 0);
        refused("draw 5;elect by 5;", 17, 0);
        refused("draw 5;elect by 5 ;", 18, 0);
        refused("draw 5;elect by 5 house 1", 18, 0);
        refused("draw 5;elect by 5;draw 3", 17, 0);
        refused("draw 5;choose 9 by 6;elect by 1", 19, 3);
        refused("draw 5;choose 9 by 5;elect by 10", 30, 3);
        refused("draw 5;choose 9 by 5;draw 10;elect by 1", 26, 3);
        refused("draw 5;choose 41 by 5;elect by 1", 14, 1);
        refused("draw 5;choose 9 of 5;elect by 1", 16, 0);
        refused("draw 5;choose 9;elect by 1", 15, 0);
        refused("draw 5;choose 9 by 5", 20, 0);
        refused("draw 5;choose 9 by 5 hous 1;elect by 1", 21, 0);
        refused("draw 5;choose 9 by 5 houses 1;elect by 1", 21, 0);
        refused("draw 5;choose 9 by 5 house 10;elect by 1", 27, 1);
        refused("draw 5;choose 9 by 5 house 0;elect by 1", 27, 1);
        refused("draw 5;choose 9 by 5 house;elect by 1", 26, 0);
        refused("draw 5;choose 9 by 5 house 1 house 1;elect by 1", 29, 0);
        String twelve = "draw 9;draw 9;draw 9;draw 9;draw 9;draw 9;draw 9;draw 9;draw 9;draw 9;draw 9;draw 9";
        refused(twelve, 83, 0);
        refused(twelve + ";", 84, 0);
        refused(twelve + ";draw 9", 84, 2);
        refused(twelve + ";  elect by 1", 86, 2);
        refused(twelve + ";drow 9", 84, 0);
        refused(twelve + ";draw 10", 84, 2);
        refused("draw 5\0;elect by 1", 6, 0);
        refused("draw 5\t;elect by 1", 6, 0);
    }

    private static void procedureKeepsTheOneAhead() {
        ElectionHouse x = city("00", "10", "20");
        same("taken", take(x, "draw 2;elect by 1"), 2);
        same("the tape is empty", x.count(8), 0);
        lots(x, 2, 0);
        x.step();
        same("refused", take(x, "draw 2;elect by 3"), fault(16, 3));
        same("the tape is empty", x.count(8), 0);
        same("steps stay", x.count(3), 2);
        same("done stays", x.count(4), 1);
        same("body stays", x.body(0), 2);
        same("an empty tape", x.procedure(), fault(0, 0));
        same("taken", take(x, "draw 3;choose 1 by 1;elect by 1"), 3);
        same("steps", x.count(3), 3);
        same("none done", x.count(4), 0);
        same("body of all", x.count(5), 3);
    }

    // ---- promise 10

    private static void lot() {
        ElectionHouse x = city("00");
        same("below", x.lot(-1), -1);
        same("above", x.lot(10000), -1);
        same("lowest", x.lot(0), 1);
        same("highest", x.lot(9999), 2);
        for (int i = 3; i <= 500; i++) {
            x.lot(i);
        }
        same("500 wait", x.count(6), 500);
        same("501st", x.lot(0), -1);
        take(x, "draw 1;elect by 1");
        same("draw", x.step(), 0);
        same("499 wait", x.count(6), 499);
        same("one more", x.lot(7), 500);
    }

    // ---- promise 11

    private static void stepDraw() {
        ElectionHouse x = city("00", "10", "20", "30", "40", "50", "60");
        take(x, "draw 3;draw 2;elect by 1");
        same("no lots", x.step(), 1);
        // 7 * 1428 = 9996: the first two are passed over
        lots(x, 9996, 9999, 9995, 5);
        same("lots lack", x.step(), 1);
        same("none is used", x.count(6), 4);
        same("none is used", x.count(7), 0);
        same("no step", x.count(4), 0);
        lots(x, 14);
        same("done", x.step(), 0);
        // 9995 % 7 = 6; 5 % 6 = 5; 14 % 5 = 4
        bodyIs(x, 6, 5, 4);
        same("used", x.count(7), 5);
        same("wait", x.count(6), 0);
        // 3 left: 9999 is passed over, 9998 % 3 = 2; then 2 left: 3 % 2 = 1
        lots(x, 9999, 9998, 3, 77);
        same("done", x.step(), 0);
        bodyIs(x, 4, 5);
        same("used", x.count(7), 8);
        same("wait", x.count(6), 1);
        ElectionHouse y = city("00", "10", "20");
        take(y, "draw 3;elect by 1");
        y.there(1, false);
        lots(y, 1, 2, 3);
        same("can't fill", y.step(), 2);
        same("no lot used", y.count(6), 3);
        y.there(1, true);
        same("fills", y.step(), 0);
        bodyIs(y, 1, 0, 2);
        ElectionHouse z = city("00", "10");
        take(z, "draw 3;elect by 1");
        same("can't fill, without lots", z.step(), 2);
        drawTakesThoseWhoLeft();
        lotsGoRoundTheRow();
    }

    private static void drawTakesThoseWhoLeft() {
        ElectionHouse x = city("00", "10", "20");
        take(x, "draw 2;draw 2;elect by 1");
        lots(x, 0, 0, 0, 0);
        x.step();
        x.there(0, false);
        same("done", x.step(), 0);
        bodyIs(x, 0, 1);
    }

    private static void lotsGoRoundTheRow() {
        ElectionHouse x = city("00", "10");
        take(x, "draw 1;elect by 1");
        for (int i = 0; i < 300; i++) {
            x.lot(1);
        }
        for (int i = 0; i < 60; i++) {
            x.step();
            x.protest(0);
        }
        for (int i = 0; i < 5; i++) {
            x.lot(0);
        }
        same("wait", x.count(6), 245);
        same("used", x.count(7), 60);
    }

    private static void stepChoose() {
        // 0 and 1 of house 0, 2 of house 1, 3 of house 2, all of party 0; 4 of house 3 and party 1
        ElectionHouse x = city("00", "00", "10", "20", "31");
        take(x, "draw 5;choose 3 by 2 house 1;elect by 1");
        lots(x, 0, 0, 0, 0, 0);
        same("draw", x.step(), 0);
        same("choose", x.step(), 0);
        // 0: of 1, 2, 3 the first is kin: 2 votes; 1: barred; 2: 3 votes; 3: 3 votes
        bodyIs(x, 0, 2, 3);
        same("barred", x.ballot(0), 1);
        same("voted on", x.ballot(1), 3);
        same("chosen", x.ballot(2), 3);
        same("votes 0", x.ballot(100), 2);
        same("votes 1", x.ballot(101), -1);
        same("votes 2", x.ballot(102), 3);
        same("votes 3", x.ballot(103), 3);
        same("votes 4", x.ballot(104), -1);
        x.protest(1);
        x.kin(3, 2);
        x.there(0, false);
        same("choose", x.step(), 2);
        // 0 is not there; 1: 2 and 3; 2: 1 alone, as 3 is kin and 0 away; 3: 1 alone; 4: of the body nobody else
        same("barred", x.ballot(0), 0);
        same("voted on", x.ballot(1), 4);
        same("chosen", x.ballot(2), 1);
        same("votes 0", x.ballot(100), -1);
        same("votes 1", x.ballot(101), 2);
        same("votes 2", x.ballot(102), 1);
        same("votes 3", x.ballot(103), 1);
        same("votes 4", x.ballot(104), 0);
        same("the session stands there", x.count(4), 1);
        same("the body stays", x.count(5), 5);
        ElectionHouse y = city("00", "01", "02", "10", "20", "30");
        take(y, "draw 1;choose 2 by 1 house 1;elect by 1");
        y.there(0, false);
        y.there(1, false);
        y.there(2, false);
        lots(y, 0);
        same("draw", y.step(), 0);
        bodyIs(y, 3);
        y.there(0, true);
        y.there(1, true);
        y.there(2, true);
        same("choose", y.step(), 0);
        bodyIs(y, 0, 4);
        same("two barred", y.ballot(0), 2);
        same("voted on", y.ballot(1), 3);
        same("he himself has no vote", y.ballot(103), 0);
    }

    private static void stepElect() {
        ElectionHouse x = city("00", "00", "10", "20");
        take(x, "draw 3;elect by 3");
        lots(x, 1, 1, 1);
        same("draw", x.step(), 0);
        bodyIs(x, 1, 2, 3);
        same("can't fill", x.step(), 2);
        same("nobody", x.elected(), -1);
        same("barred", x.ballot(0), 0);
        same("voted on", x.ballot(1), 4);
        same("elected", x.ballot(2), 0);
        same("votes", x.ballot(100), 2);
        x.turn(0, 5, 0);
        same("what is told holds from then on", x.step(), 0);
        same("elected", x.elected(), 0);
        same("elected", x.ballot(2), 1);
        same("voted on", x.ballot(1), 1);
        bodyIs(x, 1, 2, 3);
        same("all steps are done", x.step(), 3);
        same("done", x.count(4), 2);
    }

    private static void stepOrder() {
        ElectionHouse x = city("00", "10");
        same("no procedure", x.step(), 3);
        take(x, "draw 2;elect by 1");
        lots(x, 5, 6);
        same("draw", x.step(), 0);
        same("elect", x.step(), 0);
        same("no more", x.step(), 3);
        take(x, "draw 2;elect by 1");
        same("lots lack now", x.step(), 1);
    }

    // ---- promise 12

    private static void protest() {
        ElectionHouse x = city("00", "10", "20", "30");
        take(x, "draw 3;draw 2;choose 1 by 1;elect by 1");
        same("nothing is done", x.protest(0), false);
        lots(x, 3, 0, 0, 1, 0, 0, 0);
        x.step();
        bodyIs(x, 3, 0, 1);
        same("not done", x.protest(1), false);
        same("wrong", x.protest(-1), false);
        x.step();
        bodyIs(x, 0, 3);
        x.step();
        bodyIs(x, 0);
        x.step();
        same("elected", x.elected(), 1);
        same("beyond", x.protest(4), false);
        same("far", x.protest(Integer.MIN_VALUE), false);
        same("the election alone", x.protest(3), true);
        same("nobody", x.elected(), -1);
        bodyIs(x, 0);
        same("elect", x.step(), 0);
        same("against the second", x.protest(1), true);
        same("done", x.count(4), 1);
        same("nobody", x.elected(), -1);
        bodyIs(x, 3, 0, 1);
        same("lots stay used", x.count(7), 5);
        same("lots wait", x.count(6), 2);
        same("draw again", x.step(), 0);
        bodyIs(x, 3, 0);
        same("against all", x.protest(0), true);
        bodyIs(x, 0, 1, 2, 3);
    }

    // ---- promise 13

    private static void body() {
        ElectionHouse x = city("00", "10", "20");
        bodyIs(x, 0, 1, 2);
        same("below", x.body(-1), -1);
        same("far", x.body(Integer.MAX_VALUE), -1);
        same("far", x.body(Integer.MIN_VALUE), -1);
        x.there(0, false);
        bodyIs(x, 1, 2);
        take(x, "draw 2;elect by 1");
        lots(x, 1, 0);
        x.step();
        bodyIs(x, 2, 1);
    }

    // ---- promise 14

    private static void ballot() {
        ElectionHouse x = city("00", "10");
        take(x, "draw 1;elect by 1");
        for (int what : new int[] {0, 1, 2, 100, 139}) {
            same("ahead of any", x.ballot(what), -1);
        }
        lots(x, 0);
        x.step();
        same("a draw is none", x.ballot(0), -1);
        x.step();
        same("barred", x.ballot(0), 0);
        same("voted on", x.ballot(1), 2);
        same("elected", x.ballot(2), 1);
        same("votes", x.ballot(100), 0);
        same("votes", x.ballot(101), 1);
        for (int what : new int[] {-1, 3, 99, 102, 139, 140, Integer.MAX_VALUE, Integer.MIN_VALUE}) {
            same("another what", x.ballot(what), -1);
        }
        x.protest(0);
        same("the latest tried stays", x.ballot(1), 2);
        take(x, "draw 2;elect by 1");
        same("the latest tried stays", x.ballot(101), 1);
    }

    // ---- promise 15

    private static void elected() {
        ElectionHouse x = city("00", "10");
        take(x, "draw 1;elect by 1");
        lots(x, 1, 1);
        same("nobody", x.elected(), -1);
        x.step();
        same("nobody", x.elected(), -1);
        x.step();
        same("he", x.elected(), 0);
        x.there(0, false);
        same("he stays", x.elected(), 0);
        take(x, "draw x");
        same("he stays", x.elected(), 0);
        take(x, "draw 1;elect by 1");
        same("a new session", x.elected(), -1);
    }

    // ---- promises 16 and 17

    private static void chancesOfOneDraw() {
        // 3 of party 0, 2 of party 1: who has the majority of three drawn elects the first of its own
        ElectionHouse x = city("00", "10", "20", "31", "41");
        take(x, "draw 3;elect by 2");
        same("counted", x.chances(), 0);
        waysAre(x, 10, 0, 7, 0, 0, 3, 0);
        same("no citizen of that number", x.ways(39), 0);
        same("below", x.ways(-1), -1);
        same("beyond", x.ways(42), -1);
        same("far", x.ways(Integer.MAX_VALUE), -1);
        lots(x, 0, 2, 2);
        x.step();
        bodyIs(x, 0, 3, 4);
        same("counted", x.chances(), 0);
        waysAre(x, 1, 0, 0, 0, 0, 1, 0);
        same("of those two none has two votes, as nobody votes for himself", x.step(), 2);
        x.says(0, 1, true);
        same("elect", x.step(), 0);
        same("all steps are done", x.chances(), -1);
        waysAre(x, 1, 0, 0, 0, 0, 1, 0);
        x.says(0, 1, false);
        x.protest(0);
        x.there(0, false);
        same("counted", x.chances(), 0);
        waysAre(x, 4, 0, 0, 2, 0, 2, 0);
    }

    private static void chancesThatCannotFill() {
        // The first draw can't fill: one way of it, and C(6, 2) of the one behind it.
        ElectionHouse x = city("00", "00");
        take(x, "draw 6;draw 2;elect by 1");
        same("counted", x.chances(), 0);
        waysAre(x, 15, 15, 0, 0);
        // A choice that some sets can't fill: later draws count all the same.
        ElectionHouse y = city("00", "00", "01", "01", "01");
        take(y, "draw 2;choose 3 by 2;draw 2;elect by 2");
        same("counted", y.chances(), 0);
        // C(5, 2) * C(3, 2) = 30 in all; both of party 1: 3 sets, and then 3 each of party 1
        waysAre(y, 30, 21, 0, 0, 9, 0, 0);
        // An election that some sets can't fill.
        ElectionHouse z = city("00", "01", "02");
        take(z, "draw 2;elect by 2");
        z.says(0, 1, true);
        same("counted", z.chances(), 0);
        waysAre(z, 3, 2, 0, 1, 0);
    }

    private static void chancesGoByPartiesAlone() {
        // All are kin and of one house, and he himself is in the body: votes count by parties all the same.
        ElectionHouse x = city("00", "00", "00");
        x.kin(0, 1);
        take(x, "draw 3;choose 3 by 3 house 1;elect by 3");
        same("counted", x.chances(), 0);
        waysAre(x, 1, 0, 1, 0, 0);
        lots(x, 0, 0, 0);
        x.step();
        // Who left stays a voter of the body, but can't be chosen.
        x.there(0, false);
        same("counted", x.chances(), 0);
        waysAre(x, 1, 1, 0, 0, 0);
        ElectionHouse y = city("00", "00", "01");
        take(y, "draw 3;elect by 2");
        lots(y, 0, 0, 0);
        y.step();
        y.there(0, false);
        same("counted", y.chances(), 0);
        waysAre(y, 1, 0, 0, 1, 0);
        y.turn(1, 0, 1);
        y.there(1, false);
        same("counted by the parties of now", y.chances(), 0);
        waysAre(y, 1, 0, 0, 0, 1);
    }

    private static void chancesSpentByWays() {
        ElectionHouse x = full();
        for (int c = 0; c < 40; c++) {
            x.turn(c, 0, 0);
        }
        take(x, "draw 20;draw 10;elect by 1");
        // C(40, 20) * C(20, 10) is above 10 to the 15th
        same("spent", x.chances(), -2);
        same("none yet", x.ways(41), -1);
        take(x, "draw 20;elect by 1");
        same("counted", x.chances(), 0);
        same("in all", x.ways(41), 137846528820L);
        same("the first", x.ways(0), 137846528820L);
        take(x, "draw 20;draw 5;elect by 1");
        // C(40, 20) * C(20, 5) = 137846528820 * 15504
        same("spent", x.chances(), -2);
        take(x, "draw 20;draw 17;elect by 1");
        same("counted", x.chances(), 0);
        same("in all", x.ways(41), 137846528820L * 1140L);
        closeToTheMostWays(x);
        // Rows that can't fill count as well.
        take(x, "draw 20;choose 40 by 1;draw 20;elect by 1");
        x.there(0, false);
        same("spent", x.chances(), -2);
    }

    /** Of all rows of three draws the two that come closest to the bound from below and from above. */
    private static void closeToTheMostWays(ElectionHouse x) {
        long most = 1000000000000000L;
        long below = 0;
        long above = Long.MAX_VALUE;
        String textBelow = "";
        String textAbove = "";
        for (int a = 1; a <= 40; a++) {
            for (int b = 1; b <= a; b++) {
                for (int c = 1; c <= b; c++) {
                    BigInteger ways = sets(40, a).multiply(sets(a, b)).multiply(sets(b, c));
                    String text = "draw " + a + ";draw " + b + ";draw " + c + ";elect by 1";
                    if (ways.bitLength() > 60) {
                        continue;
                    }
                    long n = ways.longValueExact();
                    if (n <= most && n > below) {
                        below = n;
                        textBelow = text;
                    }
                    if (n > most && n < above) {
                        above = n;
                        textAbove = text;
                    }
                }
            }
        }
        same("close enough", below > most / 20 * 19 && above < most / 20 * 21, true);
        take(x, textBelow);
        same("counted: " + textBelow, x.chances(), 0);
        same("in all", x.ways(41), below);
        take(x, textAbove);
        same("spent: " + textAbove, x.chances(), -2);
        same("in all, as before", x.ways(41), below);
    }

    private static BigInteger sets(int n, int k) {
        BigInteger c = BigInteger.ONE;
        for (int i = 0; i < k; i++) {
            c = c.multiply(BigInteger.valueOf(n - i)).divide(BigInteger.valueOf(i + 1));
        }
        return c;
    }

    private static void chancesSpentByBodies() {
        // Of 10 of each party 18 are drawn: more than 600 unlike bodies; 11 are drawn: 360 of them.
        ElectionHouse x = full();
        take(x, "draw 18;elect by 1");
        same("spent", x.chances(), -2);
        take(x, "draw 11;elect by 1");
        same("counted", x.chances(), 0);
        same("in all", x.ways(41), 2311801440L);
        // Behind a first draw that can't fill there are no bodies at all.
        x.there(0, false);
        take(x, "draw 40;draw 20;elect by 1");
        same("counted", x.chances(), 0);
        same("can't fill", x.ways(40), 137846528820L);
        same("in all", x.ways(41), 137846528820L);
        exactlySixHundred();
    }

    /** Boxes of party sizes: drawing half of them gives as many unlike bodies as can be counted here. */
    private static void exactlySixHundred() {
        int at = 0;
        int over = 0;
        for (int a = 1; a <= 12; a++) {
            for (int b = a; b <= 12; b++) {
                for (int c = b; c <= 12; c++) {
                    int d = 40 - a - b - c;
                    for (int n = 10; n <= 30; n++) {
                        int bodies = unlike(a, b, c, d, n);
                        if (bodies == 600 && at < 3 || bodies == 601 && over < 3) {
                            ElectionHouse x = new ElectionHouse();
                            for (int i = 0; i < 40; i++) {
                                x.citizen(i % 12, i < a ? 0 : i < a + b ? 1 : i < a + b + c ? 2 : 3);
                            }
                            take(x, "draw " + n + ";elect by 1");
                            same("unlike bodies " + bodies, x.chances(), bodies == 600 ? 0 : -2);
                            at += bodies == 600 ? 1 : 0;
                            over += bodies == 601 ? 1 : 0;
                        }
                    }
                }
            }
        }
        same("both sides of the bound were tried", at > 0 && over > 0, true);
    }

    private static int unlike(int a, int b, int c, int d, int n) {
        int count = 0;
        for (int i = 0; i <= a; i++) {
            for (int j = 0; j <= b; j++) {
                for (int k = 0; k <= c; k++) {
                    int l = n - i - j - k;
                    count += l >= 0 && l <= d ? 1 : 0;
                }
            }
        }
        return count;
    }

    private static void waysStay() {
        ElectionHouse x = city("00", "00", "01");
        take(x, "draw 2;elect by 1");
        same("counted", x.chances(), 0);
        waysAre(x, 3, 0, 3, 0, 0);
        x.citizen(1, 1);
        waysAre(x, 3, 0, 3, 0, 0);
        for (int i = 4; i < 40; i++) {
            x.citizen(i % 12, i % 4);
        }
        take(x, "draw 20;draw 10;elect by 1");
        same("spent", x.chances(), -2);
        waysAre(x, 3, 0, 3, 0, 0);
    }

    // ---- promise 18

    private static void about() {
        ElectionHouse x = city("32", "30", "41", "51");
        x.kin(0, 1);
        x.kin(0, 2);
        x.there(1, false);
        same("house", x.about(0, 0), 3);
        same("party", x.about(0, 1), 2);
        same("there", x.about(0, 2), 1);
        same("kin, told and of one house", x.about(0, 3), 2);
        same("not there", x.about(1, 2), 0);
        same("kin", x.about(1, 3), 1);
        same("kin", x.about(2, 3), 1);
        same("kin", x.about(3, 3), 0);
        x.turn(1, 4, 0);
        same("kin by the house of now", x.about(1, 3), 2);
        same("another what", x.about(0, 4), -1);
        same("another what", x.about(0, -1), -1);
        same("nobody", x.about(4, 0), -1);
        same("nobody", x.about(-1, 0), -1);
    }

    // ---- promise 19

    private static void count() {
        ElectionHouse x = city("00", "10", "20");
        x.there(2, false);
        x.kin(0, 1);
        take(x, "draw 2;choose 1 by 1;elect by 1");
        lots(x, 0, 0, 9, 9, 9);
        x.step();
        x.feed(0, 0, 0, 0, 0);
        x.there(0, false);
        int[] due = {3, 1, 1, 3, 1, 2, 3, 2, 20};
        for (int what = 0; what < due.length; what++) {
            same("count " + what, x.count(what), due[what]);
        }
        same("another what", x.count(-1), -1);
        same("another what", x.count(9), -1);
        same("another what", x.count(Integer.MIN_VALUE), -1);
    }

    // ---- helpers

    /** A city by texts of a house's digit and a party's digit. */
    private static ElectionHouse city(String... citizens) {
        ElectionHouse x = new ElectionHouse();
        for (String c : citizens) {
            x.citizen(c.charAt(0) - '0', c.charAt(1) - '0');
        }
        return x;
    }

    private static ElectionHouse full() {
        ElectionHouse x = new ElectionHouse();
        for (int i = 0; i < 40; i++) {
            x.citizen(i % 12, i % 4);
        }
        return x;
    }

    private static void lots(ElectionHouse x, int... values) {
        for (int v : values) {
            x.lot(v);
        }
    }

    private static int take(ElectionHouse x, String text) {
        byte[] bytes = text.getBytes(StandardCharsets.ISO_8859_1);
        for (int at = 0; at < bytes.length; at += 20) {
            int[] five = new int[5];
            for (int i = 0; i < 20; i++) {
                five[i / 4] = five[i / 4] << 8 | (at + i < bytes.length ? bytes[at + i] & 255 : 0);
            }
            x.feed(five[0], five[1], five[2], five[3], five[4]);
        }
        x.end(bytes.length);
        return x.procedure();
    }

    private static int fault(int place, int kind) {
        return -2 - (1 + 8 * place + kind);
    }

    private static void taken(String text, int steps) {
        ElectionHouse x = new ElectionHouse();
        same("taken: " + text, take(x, text), steps);
        same("steps of: " + text, x.count(3), steps);
    }

    private static void refused(String text, int place, int kind) {
        ElectionHouse x = new ElectionHouse();
        same("refused: " + text, take(x, text), fault(place, kind));
        same("no steps of: " + text, x.count(3), 0);
    }

    private static void bodyIs(ElectionHouse x, int... due) {
        same("size of the body", x.count(5), due.length);
        for (int k = 0; k < due.length; k++) {
            same("body " + k, x.body(k), due[k]);
        }
        same("behind the body", x.body(due.length), -1);
    }

    private static void waysAre(ElectionHouse x, long all, long unfilled, long... due) {
        same("ways in all", x.ways(41), all);
        same("ways unfilled", x.ways(40), unfilled);
        for (int c = 0; c < due.length; c++) {
            same("ways of " + c, x.ways(c), due[c]);
        }
    }

    private static void same(String what, boolean got, boolean due) {
        same(what, got ? 1 : 0, due ? 1 : 0);
    }

    private static void same(String what, long got, long due) {
        if (got == due) {
            passed++;
            return;
        }
        failed++;
        String at = new Throwable().getStackTrace()[1].toString();
        System.out.println(what + ": answered " + got + ", due is " + due + " (" + at + ")");
    }
}
