/** Promises 4, 5, 40 and 42: what a text may be, and the kind and place of its first fault. */
public final class TextFaultsTest {
    private static final String[] WORDS = {"street", "tram", "person", "man", "woman", "away", "mark", "rides", "has", "hates",
        "gets", "loses", "moves", "leaves", "comes", "year", "or", "and", "not", "in", "minds", "marks", "number"};
    private static final String ONE = "street a;tram t;mark m 1 2;person p a man 1;";

    public static void main(String[] args) {
        districtTokens();
        districtWords();
        districtNames();
        districtNumbers();
        districtSorts();
        districtLength();
        districtAfterFault();
        bookFaults();
        bookLines();
        bookLength();
        sentenceFaults();
        sentenceOnes();
        sentenceWithin();
        sentenceLength();
        faultStays();
        Calls.finish("TextFaultsTest");
    }

    private static void districtFine(String text, int lines) {
        OboeDistrict x = new OboeDistrict();
        Calls.due("district " + text, Calls.district(x, text), lines);
        Calls.due("fault of " + text, x.fault(), 0);
        Calls.due("tape behind " + text, x.count(5), 0);
    }

    private static void districtFault(String text, int kind, int place) {
        OboeDistrict x = new OboeDistrict();
        Calls.due("district " + text, Calls.district(x, text), -1 - place);
        Calls.due("fault of " + text, x.fault(), kind);
        Calls.due("tape behind " + text, x.count(5), 0);
        Calls.due("district stays behind " + text, x.count(0) + x.count(1) + x.count(2) + x.count(3), 0);
    }

    private static void districtTokens() {
        districtFine("", 0);
        districtFine(" \n ", 0);
        districtFine("street a;", 1);
        districtFine("\nstreet\na ;  tram   b\n;\n", 2);
        districtFine("street abcdefg;", 1);
        districtFault("street abcdefgh;", 1, 7);
        districtFault("street a1;", 1, 7);
        districtFault("street 1a;", 1, 7);
        districtFault("street A;", 1, 7);
        districtFault("street aB;", 1, 8);
        districtFault("street a.", 1, 8);
        districtFault("street\ta;", 1, 6);
        districtFault("street\ra;", 1, 6);
        districtFault("street \u00e9;", 1, 7);
        districtFault("street \u0000;", 1, 7);
        districtFault("streeta;", 1, 0);
        districtFault("street a b;", 1, 9);
        districtFault("street 1;", 1, 7);
        districtFault("street ;", 1, 7);
        districtFault("street a;;", 1, 9);
        districtFault("street a)", 1, 8);
        districtFault("(street a;", 1, 0);
        districtFault("street a", 1, 8);
        districtFault("street a  \n", 1, 11);
        districtFault("street", 1, 6);
        districtFault("  x", 1, 2);
        districtFault("mark m 1 1a;", 1, 9);
    }

    private static void districtWords() {
        for (String word : WORDS) {
            districtFault("street " + word + ";", 1, 7);
            districtFault("tram " + word + ";", 1, 5);
            districtFault("street a;person p " + word + " man 1;", 1, 18);
            districtFault(ONE + "rides p " + word + ";", 1, ONE.length() + 8);
            boolean begins = java.util.List.of("street", "tram", "person", "mark", "rides", "has", "hates").contains(word);
            districtFault(word + " ;", 1, begins ? word.length() + 1 : 0);
        }
        districtFault("ash;", 1, 0);
        districtFault("7;", 1, 0);
        districtFault("street a;person p a cat 1;", 1, 20);
        districtFault("street a;person p a away 1;", 1, 20);
        districtFault("street a;person p a man;", 1, 23);
        districtFault("street a;person p a man x;", 1, 24);
        districtFault("street a;person p a man 1 has;", 1, 26);
        districtFault("street a;person p a man 1 away away;", 1, 31);
        districtFault("mark m;", 1, 6);
        districtFault("mark m 1;", 1, 8);
        districtFault("mark m 1 2 3;", 1, 11);
        districtFault(ONE + "hates p m;", 1, ONE.length() + 9);
        districtFault(ONE + "has p m 1;", 1, ONE.length() + 8);
    }

    private static void districtNames() {
        districtFault("street a;street a;", 3, 16);
        districtFault("street a;tram a;", 3, 14);
        districtFault("street a;mark a 1 2;", 3, 14);
        districtFault("street a;person a a man 1;", 3, 16);
        districtFault("street a;person p p man 1;", 3, 18);
        districtFault("street a;person p b man 1;", 3, 18);
        districtFault("tram a;person p a man 1;", 3, 16);
        districtFault("person p a man 1;street a;", 3, 9);
        int n = ONE.length();
        districtFine(ONE + "rides p t;has p m;hates p m 1;", 7);
        districtFault(ONE + "rides q t;", 3, n + 6);
        districtFault(ONE + "rides t t;", 3, n + 6);
        districtFault(ONE + "rides p m;", 3, n + 8);
        districtFault(ONE + "rides p u;", 3, n + 8);
        districtFault(ONE + "has p t;", 3, n + 6);
        districtFault(ONE + "hates p t 1;", 3, n + 8);
        districtFault(ONE + "rides p t;rides p t;", 3, n + 18);
        districtFault(ONE + "has p m;has p m;", 3, n + 14);
        districtFault(ONE + "hates p m 1;hates p m 99;", 3, n + 20);
    }

    private static void districtNumbers() {
        districtFine("street a;person p a man 0;person q a man 20;", 3);
        districtFine("street a;person p a man 020;", 2);
        districtFault("street a;person p a man 21;", 2, 24);
        districtFault("street a;person p a man 1000;", 1, 24);
        districtFine("mark m 0 1;mark n 40 40;mark o 1 40;", 3);
        districtFault("mark m 41 40;", 2, 7);
        districtFault("mark m 0 0;", 2, 9);
        districtFault("mark m 1 41;", 2, 9);
        districtFault("mark m 3 2;", 2, 9);
        districtFine(ONE + "hates p m 20;", 5);
        districtFault(ONE + "hates p m 0;", 2, ONE.length() + 10);
        districtFault(ONE + "hates p m 21;", 2, ONE.length() + 10);
    }

    private static void districtSorts() {
        String streets = "street a;street b;street c;street d;";
        districtFine(streets, 4);
        districtFault(streets + "street e;", 4, streets.length());
        districtFault(streets + "street a", 4, streets.length());
        districtFault(streets + "\n street", 4, streets.length() + 2);
        String trams = "tram a;tram b;tram c;";
        districtFine(trams, 3);
        districtFault(trams + "tram d;", 4, trams.length());
        String marks = "mark a 1 2;mark b 1 2;mark c 1 2;";
        districtFine(marks, 3);
        districtFault(marks + "mark d 1 2;", 4, marks.length());
        StringBuilder persons = new StringBuilder("street a;");
        for (char c = 'b'; c <= 'k'; c++) {
            persons.append("person ").append(c).append(" a man 1;");
        }
        districtFine(persons.toString(), 11);
        districtFault(persons + "person l a man 1;", 4, persons.length());
    }

    private static void districtLength() {
        districtFine("street a;" + Calls.times(891, " "), 1);
        districtFault("street a;" + Calls.times(892, " "), 1, 900);
        districtFault(Calls.times(40, " ") + "street a;" + Calls.times(880, " "), 1, 900);
        districtFault("street a;" + Calls.times(890, " ") + "tram b;", 1, 900);
        districtFault("street a;" + Calls.times(891, " ") + "B", 1, 900);
        String ahead = Calls.times(890, " ") + "street ";
        districtFault(ahead + "abcdefg;", 1, 900);
        districtFault(ahead + "abcdefgh;", 1, 897);
        districtFault("tram abcdefg;" + ahead.substring(13) + "abcdefg;", 3, 897);
        districtFault("street a;" + Calls.times(892, " ") + "street a;", 1, 900);
        districtFault("street A;" + Calls.times(892, " "), 1, 7);
        String streets = "street a;street b;street c;street d;";
        districtFault(streets + Calls.times(863, " ") + "street e;", 4, 899);
        districtFault(streets + Calls.times(864, " ") + "street e;", 1, 900);
    }

    private static void districtAfterFault() {
        OboeDistrict x = Calls.town(Calls.TOWN);
        x.years(1);
        Calls.sentence(x, "away");
        Calls.due("a district with a fault", Calls.district(x, "street a;street a;"), -17);
        Calls.due("persons behind it", x.count(2), 5);
        Calls.due("year behind it", x.now(0), 1);
        Calls.due("sentence behind it", x.said(-1), 1);
        Calls.due("undo behind it", x.undo(), 0);
        Calls.due("a new district", Calls.district(x, Calls.PAIR), 6);
        Calls.due("sentence of a new district", x.said(-1), -1);
        Calls.due("nothing of it is to be undone", x.undo(), -1);
        Calls.due("persons of a new district", x.count(2), 2);
        x.years(2);
        Calls.district(x, Calls.PAIR);
        for (int what : new int[] {0, 2, 5}) {
            Calls.due("now(" + what + ") of a new district", x.now(what), 0);
        }
    }

    private static void bookFault(String text, int kind, int place) {
        for (int lives = 0; lives < 2; lives++) {
            OboeDistrict x = Calls.town(ONE);
            Calls.due("book " + text, Calls.book(x, text, lives), -2 - place);
            Calls.due("fault of " + text, x.fault(), kind);
            Calls.due("tape behind " + text, x.count(5), 0);
            Calls.due("told behind " + text, x.told(1), -1);
            Calls.due("year behind " + text, x.now(0), 0);
            Calls.due("undo behind " + text, x.undo(), -1);
        }
    }

    private static void bookFine(String text, int lines) {
        OboeDistrict x = Calls.town(ONE);
        Calls.due("book " + text, Calls.book(x, text, 1), -1);
        Calls.due("fault of " + text, x.fault(), 0);
        Calls.due("lines of " + text, x.told(1), lines);
    }

    private static void bookFaults() {
        bookFine("", 0);
        bookFine("p gets m;p loses m;p leaves;p comes;year 60;", 5);
        bookFault("q gets m;", 3, 0);
        bookFault("m gets m;", 3, 0);
        bookFault("p gets a;", 3, 7);
        bookFault("p gets z;", 3, 7);
        bookFault("p loses t;", 3, 8);
        bookFault("p moves m;", 3, 8);
        bookFault("p gets year;", 1, 7);
        bookFault("p gets;", 1, 6);
        bookFault("p leaves a;", 1, 9);
        bookFault("p has m;", 1, 2);
        bookFault("p year 1;", 1, 2);
        bookFault("p m;", 1, 2);
        bookFault("gets m;", 1, 0);
        bookFault("street a;", 1, 0);
        bookFault("1;", 1, 0);
        bookFault("year;", 1, 4);
        bookFault("year 0;", 2, 5);
        bookFault("year 61;", 2, 5);
        bookFault("year 1000;", 1, 5);
        bookFault("year 1", 1, 6);
        bookFault("year 1;p comes;q", 3, 15);
    }

    private static void bookLines() {
        String forty = Calls.times(40, "year 1;");
        bookFine(forty, 40);
        bookFault(forty + "year 1;", 4, 280);
        bookFault(forty + " p leaves;", 4, 281);
        bookFault(forty + "q leaves;", 3, 280);
        bookFault(forty + "gets;", 1, 280);
        bookFault(forty + ";", 1, 280);
    }

    private static void bookLength() {
        bookFine("year 1;" + Calls.times(393, " "), 1);
        bookFault("year 1;" + Calls.times(394, " "), 1, 400);
        bookFault(Calls.times(398, " ") + "year 1;", 1, 400);
        bookFault(Calls.times(396, " ") + "yearling;", 1, 396);
        bookFault(Calls.times(396, " ") + "someone;", 3, 396);
        bookFault(Calls.times(399, " ") + "someone;", 3, 399);
        bookFault(Calls.times(400, " ") + "someone;", 1, 400);
    }

    private static void sentenceFault(String text, int kind, int place) {
        OboeDistrict x = Calls.town(ONE);
        Calls.sentence(x, "man");
        Calls.due("sentence " + text, Calls.sentence(x, text), -1 - place);
        Calls.due("fault of " + text, x.fault(), kind);
        Calls.due("tape behind " + text, x.count(5), 0);
        Calls.due("sentence stays behind " + text, x.said(-1), 1);
    }

    private static void sentenceFine(String text, int ones) {
        OboeDistrict x = Calls.town(ONE);
        Calls.due("sentence " + text, Calls.sentence(x, text), ones);
        Calls.due("fault of " + text, x.fault(), 0);
    }

    private static void sentenceFaults() {
        sentenceFine("away", 1);
        sentenceFine("not man and(woman or has m)", 5);
        sentenceFine("minds<999", 1);
        sentenceFine("minds = 000 or marks > 1 or number < 10", 3);
        sentenceFault("", 1, 0);
        sentenceFault("  ", 1, 2);
        sentenceFault("p", 1, 0);
        sentenceFault("man;", 1, 3);
        sentenceFault("man woman", 1, 4);
        sentenceFault("man and", 1, 7);
        sentenceFault("man or or man", 1, 7);
        sentenceFault("and man", 1, 0);
        sentenceFault("not", 1, 3);
        sentenceFault("(man", 1, 4);
        sentenceFault("man)", 1, 3);
        sentenceFault("()", 1, 1);
        sentenceFault("has", 1, 3);
        sentenceFault("has man", 1, 4);
        sentenceFault("has t", 3, 4);
        sentenceFault("has z", 3, 4);
        sentenceFault("in m", 3, 3);
        sentenceFault("rides a", 3, 6);
        sentenceFault("minds 3", 1, 6);
        sentenceFault("minds < x", 1, 8);
        sentenceFault("minds < = 3", 1, 8);
        sentenceFault("minds < 1000", 1, 8);
        sentenceFault("mark < 1", 1, 0);
        sentenceFault("gets m", 1, 0);
    }

    private static void sentenceOnes() {
        String twenty = Calls.times(19, "man or ") + "away";
        sentenceFine(twenty, 20);
        sentenceFault(twenty + " and woman", 4, twenty.length() + 5);
        sentenceFault(twenty + " and (man)", 4, twenty.length() + 5);
        sentenceFault(twenty + " and ;", 1, twenty.length() + 5);
        sentenceFault(twenty + " and p", 1, twenty.length() + 5);
        String ten = Calls.times(9, "not man or ") + "(man)";
        sentenceFine(ten, 20);
        sentenceFault(ten + "or not man", 4, ten.length() + 3);
        sentenceFault(Calls.times(19, "man or ") + "not man", 4, 19 * 7 + 4);
    }

    private static void sentenceWithin() {
        sentenceFine(Calls.times(7, "not ") + "man", 8);
        sentenceFault(Calls.times(8, "not ") + "man", 4, 32);
        sentenceFault(Calls.times(8, "not ") + "not man", 4, 32);
        sentenceFault(Calls.times(8, "not "), 1, 32);
        sentenceFine(Calls.times(7, "(") + "man" + Calls.times(7, ")"), 8);
        sentenceFault(Calls.times(8, "(") + "man" + Calls.times(8, ")"), 4, 8);
        sentenceFine("((not(not(not man)))) and not not man", 11);
        sentenceFault("not(not(not(not(not man or not man))))", 4, 16);
        sentenceFault("not(not(not(man or not not man)))", 4, 27);
    }

    private static void sentenceLength() {
        sentenceFine("man" + Calls.times(197, " "), 1);
        sentenceFault("man" + Calls.times(198, " "), 1, 200);
        sentenceFine(Calls.times(197, " ") + "man", 1);
        sentenceFault(Calls.times(196, " ") + "woman", 1, 200);
        sentenceFault(Calls.times(193, " ") + "has trumpet", 3, 197);
        sentenceFault(Calls.times(196, " ") + "minds < 3", 1, 200);
        sentenceFault(Calls.times(195, " ") + "has trumpet", 3, 199);
        sentenceFault(Calls.times(196, " ") + "has trumpet", 1, 200);
    }

    private static void faultStays() {
        OboeDistrict x = new OboeDistrict();
        Calls.due("fault ahead of any", x.fault(), 0);
        Calls.due("a book of a wrong name", Calls.book(x, "q comes;", 0), -2);
        Calls.due("its fault", x.fault(), 3);
        Calls.due("book(2)", x.book(2), -1000);
        Calls.due("fault behind book(2)", x.fault(), 3);
        Calls.due("counts()", Calls.counts(x, 0, 0), 1);
        Calls.due("fault behind counts()", x.fault(), 3);
        Calls.due("sentence", Calls.sentence(x, "man"), 1);
        Calls.due("fault behind a sentence", x.fault(), 0);
    }
}
