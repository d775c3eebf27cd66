import java.io.IOException;
import java.nio.charset.StandardCharsets;
import java.nio.file.Files;
import java.nio.file.Path;
import java.util.Arrays;
import java.util.NoSuchElementException;

/** What the tests share: texts onto tapes, and answers held against what is due. */
final class Calls {
    static final String TOWN = "street ash;street elm;tram red;tram blue;"
            + "person ann ash woman 3;person bob ash man 5;person cid elm man 0;person dot elm woman 9;"
            + "person eve elm woman 2 away;mark oboe 1 4;mark sad 1 2;"
            + "rides ann red;rides bob red;rides cid blue;has bob oboe;has ann sad;has dot sad;hates ann oboe 6;";
    /** Two men, of whom both should have m and none n. */
    static final String PAIR = "street a;person p a man 1;person q a man 2;mark m 1 1;mark n 0 40;has q n;";

    private static final Path DOCUMENT = Path.of("../shared/DOC.md");
    private static final int PROMISES = 46;

    private static int wrong = 0;
    private static String sentence = "";
    private static String document = "";
    private static final boolean[] isQuoted = new boolean[PROMISES + 1];

    private Calls() {
    }

    /** What comes now tests these words of a promise. */
    static void says(int promise, String words) {
        sentence = "Promise " + promise + ", '" + words + "': ";
        isQuoted[promise] = true;
        quote("## Promise " + promise + ":", words);
    }

    /** What comes now tests these words that stand ahead of the promises, and are part of some. */
    static void terms(String promises, String words) {
        sentence = "Terms of promises " + promises + ", '" + words + "': ";
        quote("## Terms", words);
    }

    /** The words must stand in the document behind this heading, ahead of the next one. */
    private static void quote(String heading, String words) {
        if (!Files.exists(DOCUMENT)) {
            return;
        }
        if (document.isEmpty()) {
            document = readDocument();
        }
        int from = document.indexOf(heading);
        int to = document.indexOf("\n## ", from + 1);
        due("the document says so", from >= 0 && to >= 0 && document.substring(from, to).contains(words), true);
    }

    private static String readDocument() {
        try {
            return new String(Files.readAllBytes(DOCUMENT), StandardCharsets.UTF_8);
        } catch (IOException e) {
            throw new IllegalStateException("no document", e);
        }
    }

    /** Each promise must have been quoted by the test that ends. */
    static void eachPromiseIsQuoted() {
        sentence = "";
        for (int promise = 1; promise <= PROMISES; promise++) {
            due("promise " + promise + " is quoted", isQuoted[promise], true);
        }
    }

    static void due(String what, long got, long want) {
        if (got != want) {
            wrong++;
            System.out.println(sentence + what + " answered " + got + ", due is " + want);
        }
    }

    static void due(String what, boolean got, boolean want) {
        due(what, got ? 1 : 0, want ? 1 : 0);
    }

    static void finish(String name) {
        System.out.println(wrong == 0 ? name + ": all answers are as due" : name + ": " + wrong + " answers are not as due");
        if (wrong != 0) {
            System.exit(1);
        }
    }

    /** The text comes behind the tape. */
    static void tell(OboeDistrict x, String text) {
        byte[] bytes = text.getBytes(StandardCharsets.ISO_8859_1);
        int was = x.count(5);
        for (int from = 0; from < bytes.length; from += 20) {
            int[] five = new int[5];
            for (int i = 0; i < 20 && from + i < bytes.length; i++) {
                five[i / 4] |= (bytes[from + i] & 255) << 24 - i % 4 * 8;
            }
            x.feed(five[0], five[1], five[2], five[3], five[4]);
        }
        due("end of " + text, x.end(was + bytes.length), true);
    }

    static OboeDistrict town(String text) {
        OboeDistrict x = new OboeDistrict();
        tell(x, text);
        due("fault of " + text, x.district() < 0 ? x.fault() : 0, 0);
        return x;
    }

    static int district(OboeDistrict x, String text) {
        tell(x, text);
        return x.district();
    }

    static int book(OboeDistrict x, String text, int lives) {
        tell(x, text);
        return x.book(lives);
    }

    static int sentence(OboeDistrict x, String text) {
        tell(x, text);
        return x.sentence();
    }

    static int counts(OboeDistrict x, int... bytes) {
        StringBuilder text = new StringBuilder();
        for (int b : bytes) {
            text.append((char) b);
        }
        tell(x, text.toString());
        return x.counts();
    }

    static boolean personThrows(OboeDistrict x, int p, int what) {
        try {
            x.person(p, what);
            return false;
        } catch (NoSuchElementException e) {
            return true;
        }
    }

    static String plate(OboeDistrict x, int p) {
        int n = x.plate(p);
        StringBuilder text = new StringBuilder();
        for (int i = 0; i < n; i++) {
            text.append((char) x.byteAt(i));
        }
        return text.toString();
    }

    /** Numbers that are none of 0 to count - 1, those among them that are one of these by a shift or a cast. */
    static int[] outside(int count) {
        int[] all = {-1, -2, count, count + 1, 32, 33, 64, 256, 257, 65536, 65537, 1 << 30, -32, -256, -65536,
            Integer.MIN_VALUE, Integer.MIN_VALUE + 1, Integer.MAX_VALUE, Integer.MAX_VALUE - 1};
        return Arrays.stream(all).filter(n -> n < 0 || n >= count).toArray();
    }

    static String times(int n, String text) {
        return text.repeat(n);
    }
}
