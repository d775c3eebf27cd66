/** What the tests of texts share: a text that has no fault, or one of a kind at a place. */
final class Texts {
    /** One of each sort. */
    static final String ONE = "street a;tram t;mark m 1 2;person p a man 1;";

    private Texts() {
    }

    static void districtFine(String text, int lines) {
        OboeDistrict x = new OboeDistrict();
        Calls.due("district " + text, Calls.district(x, text), lines);
        Calls.due("fault of " + text, x.fault(), 0);
        Calls.due("tape behind " + text, x.count(5), 0);
    }

    static void districtFault(String text, int kind, int place) {
        OboeDistrict x = new OboeDistrict();
        Calls.due("district " + text, Calls.district(x, text), -1 - place);
        Calls.due("fault of " + text, x.fault(), kind);
        Calls.due("tape behind " + text, x.count(5), 0);
        Calls.due("district stays behind " + text, x.count(0) + x.count(1) + x.count(2) + x.count(3), 0);
    }

    static void bookFault(String text, int kind, int place) {
        for (int lives = 0; lives < 2; lives++) {
            OboeDistrict x = Calls.town(ONE);
            Calls.due("book " + text, Calls.book(x, text, lives), -2 - place);
            Calls.due("fault of " + text, x.fault(), kind);
            Calls.due("tape behind " + text, x.count(5), 0);
            Calls.due("told behind " + text, x.told(1), -1);
            Calls.due("year behind " + text, x.now(0), 0);
            Calls.due("undo behind " + text, x.undo(), -1);
        }
    }

    static void bookFine(String text, int lines) {
        OboeDistrict x = Calls.town(ONE);
        Calls.due("book " + text, Calls.book(x, text, 1), -1);
        Calls.due("fault of " + text, x.fault(), 0);
        Calls.due("lines of " + text, x.told(1), lines);
    }

    static void sentenceFault(String text, int kind, int place) {
        OboeDistrict x = Calls.town(ONE);
        Calls.sentence(x, "man");
        Calls.due("sentence " + text, Calls.sentence(x, text), -1 - place);
        Calls.due("fault of " + text, x.fault(), kind);
        Calls.due("tape behind " + text, x.count(5), 0);
        Calls.due("sentence stays behind " + text, x.said(-1), 1);
    }

    static void sentenceFine(String text, int ones) {
        OboeDistrict x = Calls.town(ONE);
        Calls.due("sentence " + text, Calls.sentence(x, text), ones);
        Calls.due("fault of " + text, x.fault(), 0);
    }
}
