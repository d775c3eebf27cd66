import java.nio.charset.StandardCharsets;
import java.util.NoSuchElementException;

/** What the tests share: texts onto tapes, and answers held against what is due. */
final class Calls {
    static final String TOWN = "street ash;street elm;tram red;tram blue;"
            + "person ann ash woman 3;person bob ash man 5;person cid elm man 0;person dot elm woman 9;"
            + "person eve elm woman 2 away;mark oboe 1 4;mark sad 1 2;"
            + "rides ann red;rides bob red;rides cid blue;has bob oboe;has ann sad;has dot sad;hates ann oboe 6;";
    /** Two men, of whom both should have m and none n. */
    static final String PAIR = "street a;person p a man 1;person q a man 2;mark m 1 1;mark n 0 40;has q n;";

    private static int wrong = 0;

    private Calls() {
    }

    static void due(String what, long got, long want) {
        if (got != want) {
            wrong++;
            System.out.println(what + " answered " + got + ", due is " + want);
        }
    }

    static void due(String what, boolean got, boolean want) {
        due(what, got ? 1 : 0, want ? 1 : 0);
    }

    static void finish(String name) {
        System.out.println(wrong == 0 ? name + ": all answers are as due" : name + ": " + wrong + " answers are not as due");
        if (wrong != 0) {
            System.exit(1);
        }
    }

    /** The text comes behind the tape. */
    static void tell(OboeDistrict x, String text) {
        byte[] bytes = text.getBytes(StandardCharsets.ISO_8859_1);
        int was = x.count(5);
        for (int from = 0; from < bytes.length; from += 20) {
            int[] five = new int[5];
            for (int i = 0; i < 20 && from + i < bytes.length; i++) {
                five[i / 4] |= (bytes[from + i] & 255) << 24 - i % 4 * 8;
            }
            x.feed(five[0], five[1], five[2], five[3], five[4]);
        }
        due("end of " + text, x.end(was + bytes.length), true);
    }

    static OboeDistrict town(String text) {
        OboeDistrict x = new OboeDistrict();
        tell(x, text);
        due("fault of " + text, x.district() < 0 ? x.fault() : 0, 0);
        return x;
    }

    static int district(OboeDistrict x, String text) {
        tell(x, text);
        return x.district();
    }

    static int book(OboeDistrict x, String text, int lives) {
        tell(x, text);
        return x.book(lives);
    }

    static int sentence(OboeDistrict x, String text) {
        tell(x, text);
        return x.sentence();
    }

    static int counts(OboeDistrict x, int... bytes) {
        StringBuilder text = new StringBuilder();
        for (int b : bytes) {
            text.append((char) b);
        }
        tell(x, text.toString());
        return x.counts();
    }

    static boolean personThrows(OboeDistrict x, int p, int what) {
        try {
            x.person(p, what);
            return false;
        } catch (NoSuchElementException e) {
            return true;
        }
    }

    static String plate(OboeDistrict x, int p) {
        int n = x.plate(p);
        StringBuilder text = new StringBuilder();
        for (int i = 0; i < n; i++) {
            text.append((char) x.byteAt(i));
        }
        return text.toString();
    }

    static String times(int n, String text) {
        return text.repeat(n);
    }
}
