import java.io.IOException;
import java.nio.charset.StandardCharsets;
import java.nio.file.Files;
import java.nio.file.Path;
import java.util.regex.Matcher;
import java.util.regex.Pattern;

/**
 * What the tests of sentences share. Each test quotes the sentence of the document that it holds the class to;
 * a quote that the document does not have, and a part of it that no quote covers, fail like a wrong answer.
 */
abstract class Sentences {
    private static int passed = 0;
    private static int failed = 0;
    private static String document = "";
    private static String part = "";
    private static boolean[] told = {};
    private static String sentence = "";

    // ---- the document

    /** .ci/run hands over the path of the source, and then that of the document. */
    static void open(String[] args) throws IOException {
        if (args.length < 2 || !Files.isReadable(Path.of(args[1]))) {
            System.out.println("the document is not given: quotes are not looked up in it");
            return;
        }
        document = Files.readString(Path.of(args[1])).replaceAll("```\\w*", " ").replaceAll("\\s+", " ");
    }

    /** The part of the document behind one text and ahead of another ("": up to its end); all of it must be quoted. */
    static void part(String from, String to) {
        closePart();
        if (document.isEmpty()) {
            return;
        }
        int start = document.indexOf(from);
        int end = to.isEmpty() ? document.length() : document.indexOf(to, start + from.length());
        if (start < 0 || end < 0) {
            fail("the document has no part from '" + from + "' to '" + to + "'");
            return;
        }
        part = document.substring(start + from.length(), end);
        told = new boolean[part.length()];
        Matcher signature = Pattern.compile("^ `[^`]*`:").matcher(part);
        if (signature.find()) {
            markTold(0, signature.end());
        }
    }

    /** One sentence of the part at hand, and the test that holds the class to it. */
    static void sentence(String quote, Runnable test) {
        sentence = quote;
        int at = part.indexOf(quote);
        if (at >= 0) {
            markTold(at, at + quote.length());
        } else if (!document.isEmpty()) {
            fail("the document does not say this here");
        }
        int before = passed + failed;
        test.run();
        if (passed + failed == before) {
            fail("nothing was asked");
        }
    }

    private static void markTold(int from, int to) {
        for (int i = from; i < to; i++) {
            told[i] = true;
        }
    }

    private static void closePart() {
        StringBuilder untold = new StringBuilder();
        for (int i = 0; i < part.length(); i++) {
            untold.append(told[i] ? ' ' : part.charAt(i));
        }
        sentence = untold.toString().trim().replaceAll("\\s+", " ");
        if (sentence.matches(".*[A-Za-z0-9].*")) {
            fail("no test quotes this");
        }
        part = "";
    }

    static void close() {
        closePart();
        System.out.println(passed + " passed, " + failed + " failed");
        if (failed != 0) {
            System.exit(1);
        }
    }

    // ---- answers

    static void same(String what, boolean got, boolean due) {
        same(what, got ? 1 : 0, due ? 1 : 0);
    }

    static void same(String what, long got, long due) {
        if (got == due) {
            passed++;
        } else {
            fail(what + ": answered " + got + ", due is " + due);
        }
    }

    private static void fail(String what) {
        failed++;
        System.out.println("[" + sentence + "] " + what);
    }

    // ---- cities

    /** A city by texts of a house's digit (a and b are 10 and 11) and a party's digit. */
    static ElectionHouse city(String... citizens) {
        ElectionHouse x = new ElectionHouse();
        for (String c : citizens) {
            x.citizen(Character.digit(c.charAt(0), 12), Character.digit(c.charAt(1), 4));
        }
        return x;
    }

    /** So many of each party, those of party 0 first. */
    static ElectionHouse ofParties(int... sizes) {
        ElectionHouse x = new ElectionHouse();
        int c = 0;
        for (int party = 0; party < sizes.length; party++) {
            for (int i = 0; i < sizes[party]; i++) {
                x.citizen(c % 12, party);
                c++;
            }
        }
        return x;
    }

    /** Forty citizens, ten of each party in turn. */
    static ElectionHouse full() {
        ElectionHouse x = new ElectionHouse();
        for (int i = 0; i < 40; i++) {
            x.citizen(i % 12, i % 4);
        }
        return x;
    }

    static void leave(ElectionHouse x, int... citizens) {
        for (int c : citizens) {
            x.there(c, false);
        }
    }

    static void come(ElectionHouse x, int... citizens) {
        for (int c : citizens) {
            x.there(c, true);
        }
    }

    // ---- procedures

    static void feed(ElectionHouse x, String text) {
        byte[] bytes = text.getBytes(StandardCharsets.ISO_8859_1);
        int ahead = x.count(8);
        for (int at = 0; at < bytes.length; at += 20) {
            int[] five = new int[5];
            for (int i = 0; i < 20; i++) {
                five[i / 4] = five[i / 4] << 8 | (at + i < bytes.length ? bytes[at + i] & 255 : 0);
            }
            x.feed(five[0], five[1], five[2], five[3], five[4]);
        }
        x.end(ahead + bytes.length);
    }

    static int take(ElectionHouse x, String text) {
        feed(x, text);
        return x.procedure();
    }

    static int fault(int place, int kind) {
        return -2 - (1 + 8 * place + kind);
    }

    static void taken(String text, int steps) {
        ElectionHouse x = new ElectionHouse();
        same("taken: '" + text + "'", take(x, text), steps);
        same("steps of '" + text + "'", x.count(3), steps);
    }

    static void refused(String text, int place, int kind) {
        ElectionHouse x = new ElectionHouse();
        same("refused: '" + text + "'", take(x, text), fault(place, kind));
        same("no steps of '" + text + "'", x.count(3), 0);
    }

    /** So many draws of nine, one behind the other. */
    static String nines(int steps) {
        return "draw 9" + ";draw 9".repeat(steps - 1);
    }

    // ---- sessions

    static void lots(ElectionHouse x, int... values) {
        for (int v : values) {
            x.lot(v);
        }
    }

    static void steps(ElectionHouse x, int... due) {
        for (int i = 0; i < due.length; i++) {
            same("step call " + i, x.step(), due[i]);
        }
    }

    static void bodyIs(ElectionHouse x, int... due) {
        same("size of the body", x.count(5), due.length);
        for (int k = 0; k < due.length; k++) {
            same("body " + k, x.body(k), due[k]);
        }
        same("behind the body", x.body(due.length), -1);
    }

    static void ballotIs(ElectionHouse x, int barred, int votedOn, int chosen) {
        same("barred", x.ballot(0), barred);
        same("voted on", x.ballot(1), votedOn);
        same("chosen", x.ballot(2), chosen);
    }

    static void votesAre(ElectionHouse x, int... due) {
        for (int c = 0; c < due.length; c++) {
            same("votes for " + c, x.ballot(100 + c), due[c]);
        }
    }

    static void lotsAre(ElectionHouse x, int waiting, int used) {
        same("lots that wait", x.count(6), waiting);
        same("lots used", x.count(7), used);
    }

    // ---- chances

    static void waysAre(ElectionHouse x, long all, long unfilled, long... due) {
        same("ways in all", x.ways(41), all);
        same("ways unfilled", x.ways(40), unfilled);
        for (int c = 0; c < due.length; c++) {
            same("ways of " + c, x.ways(c), due[c]);
        }
    }
}
