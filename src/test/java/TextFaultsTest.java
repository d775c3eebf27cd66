/** Promises 4, 5, 40 and 42: what a text may be, and the kind and place of its first fault. */
public final class TextFaultsTest {
    private static final String[] WORDS = {"street", "tram", "person", "man", "woman", "away", "mark", "rides", "has", "hates",
        "gets", "loses", "moves", "leaves", "comes", "year", "or", "and", "not", "in", "minds", "marks", "number"};
    private static final String ONE = Texts.ONE;

    public static void main(String[] args) {
        districtTokens();
        districtWords();
        districtNames();
        districtNumbers();
        districtSorts();
        districtLength();
        districtAfterFault();
        bookFaults();
        bookLines();
        bookLength();
        sentenceFaults();
        sentenceOnes();
        sentenceWithin();
        sentenceLength();
        faultStays();
        Calls.finish("TextFaultsTest");
    }

    private static void districtTokens() {
        Texts.districtFine("", 0);
        Texts.districtFine(" \n ", 0);
        Texts.districtFine("street a;", 1);
        Texts.districtFine("\nstreet\na ;  tram   b\n;\n", 2);
        Texts.districtFine("street abcdefg;", 1);
        Texts.districtFault("street abcdefgh;", 1, 7);
        Texts.districtFault("street a1;", 1, 7);
        Texts.districtFault("street 1a;", 1, 7);
        Texts.districtFault("street A;", 1, 7);
        Texts.districtFault("street aB;", 1, 8);
        Texts.districtFault("street a.", 1, 8);
        Texts.districtFault("street\ta;", 1, 6);
        Texts.districtFault("street\ra;", 1, 6);
        Texts.districtFault("street \u00e9;", 1, 7);
        Texts.districtFault("street \u0000;", 1, 7);
        Texts.districtFault("streeta;", 1, 0);
        Texts.districtFault("street a b;", 1, 9);
        Texts.districtFault("street 1;", 1, 7);
        Texts.districtFault("street ;", 1, 7);
        Texts.districtFault("street a;;", 1, 9);
        Texts.districtFault("street a)", 1, 8);
        Texts.districtFault("(street a;", 1, 0);
        Texts.districtFault("street a", 1, 8);
        Texts.districtFault("street a  \n", 1, 11);
        Texts.districtFault("street", 1, 6);
        Texts.districtFault("  x", 1, 2);
        Texts.districtFault("mark m 1 1a;", 1, 9);
    }

    private static void districtWords() {
        for (String word : WORDS) {
            Texts.districtFault("street " + word + ";", 1, 7);
            Texts.districtFault("tram " + word + ";", 1, 5);
            Texts.districtFault("street a;person p " + word + " man 1;", 1, 18);
            Texts.districtFault(ONE + "rides p " + word + ";", 1, ONE.length() + 8);
            boolean begins = java.util.List.of("street", "tram", "person", "mark", "rides", "has", "hates").contains(word);
            Texts.districtFault(word + " ;", 1, begins ? word.length() + 1 : 0);
        }
        Texts.districtFault("ash;", 1, 0);
        Texts.districtFault("7;", 1, 0);
        Texts.districtFault("street a;person p a cat 1;", 1, 20);
        Texts.districtFault("street a;person p a away 1;", 1, 20);
        Texts.districtFault("street a;person p a man;", 1, 23);
        Texts.districtFault("street a;person p a man x;", 1, 24);
        Texts.districtFault("street a;person p a man 1 has;", 1, 26);
        Texts.districtFault("street a;person p a man 1 away away;", 1, 31);
        Texts.districtFault("mark m;", 1, 6);
        Texts.districtFault("mark m 1;", 1, 8);
        Texts.districtFault("mark m 1 2 3;", 1, 11);
        Texts.districtFault(ONE + "hates p m;", 1, ONE.length() + 9);
        Texts.districtFault(ONE + "has p m 1;", 1, ONE.length() + 8);
    }

    private static void districtNames() {
        Texts.districtFault("street a;street a;", 3, 16);
        Texts.districtFault("street a;tram a;", 3, 14);
        Texts.districtFault("street a;mark a 1 2;", 3, 14);
        Texts.districtFault("street a;person a a man 1;", 3, 16);
        Texts.districtFault("street a;person p p man 1;", 3, 18);
        Texts.districtFault("street a;person p b man 1;", 3, 18);
        Texts.districtFault("tram a;person p a man 1;", 3, 16);
        Texts.districtFault("person p a man 1;street a;", 3, 9);
        int n = ONE.length();
        Texts.districtFine(ONE + "rides p t;has p m;hates p m 1;", 7);
        Texts.districtFault(ONE + "rides q t;", 3, n + 6);
        Texts.districtFault(ONE + "rides t t;", 3, n + 6);
        Texts.districtFault(ONE + "rides p m;", 3, n + 8);
        Texts.districtFault(ONE + "rides p u;", 3, n + 8);
        Texts.districtFault(ONE + "has p t;", 3, n + 6);
        Texts.districtFault(ONE + "hates p t 1;", 3, n + 8);
        Texts.districtFault(ONE + "rides p t;rides p t;", 3, n + 18);
        Texts.districtFault(ONE + "has p m;has p m;", 3, n + 14);
        Texts.districtFault(ONE + "hates p m 1;hates p m 99;", 3, n + 20);
    }

    private static void districtNumbers() {
        Texts.districtFine("street a;person p a man 0;person q a man 20;", 3);
        Texts.districtFine("street a;person p a man 020;", 2);
        Texts.districtFault("street a;person p a man 21;", 2, 24);
        Texts.districtFault("street a;person p a man 1000;", 1, 24);
        Texts.districtFine("mark m 0 1;mark n 40 40;mark o 1 40;", 3);
        Texts.districtFault("mark m 41 40;", 2, 7);
        Texts.districtFault("mark m 0 0;", 2, 9);
        Texts.districtFault("mark m 1 41;", 2, 9);
        Texts.districtFault("mark m 3 2;", 2, 9);
        Texts.districtFine(ONE + "hates p m 20;", 5);
        Texts.districtFault(ONE + "hates p m 0;", 2, ONE.length() + 10);
        Texts.districtFault(ONE + "hates p m 21;", 2, ONE.length() + 10);
    }

    private static void districtSorts() {
        String streets = "street a;street b;street c;street d;";
        Texts.districtFine(streets, 4);
        Texts.districtFault(streets + "street e;", 4, streets.length());
        Texts.districtFault(streets + "street a", 4, streets.length());
        Texts.districtFault(streets + "\n street", 4, streets.length() + 2);
        String trams = "tram a;tram b;tram c;";
        Texts.districtFine(trams, 3);
        Texts.districtFault(trams + "tram d;", 4, trams.length());
        String marks = "mark a 1 2;mark b 1 2;mark c 1 2;";
        Texts.districtFine(marks, 3);
        Texts.districtFault(marks + "mark d 1 2;", 4, marks.length());
        StringBuilder persons = new StringBuilder("street a;");
        for (char c = 'b'; c <= 'k'; c++) {
            persons.append("person ").append(c).append(" a man 1;");
        }
        Texts.districtFine(persons.toString(), 11);
        Texts.districtFault(persons + "person l a man 1;", 4, persons.length());
    }

    private static void districtLength() {
        Texts.districtFine("street a;" + Calls.times(891, " "), 1);
        Texts.districtFault("street a;" + Calls.times(892, " "), 1, 900);
        Texts.districtFault(Calls.times(40, " ") + "street a;" + Calls.times(880, " "), 1, 900);
        Texts.districtFault("street a;" + Calls.times(890, " ") + "tram b;", 1, 900);
        Texts.districtFault("street a;" + Calls.times(891, " ") + "B", 1, 900);
        String ahead = Calls.times(890, " ") + "street ";
        Texts.districtFault(ahead + "abcdefg;", 1, 900);
        Texts.districtFault(ahead + "abcdefgh;", 1, 897);
        Texts.districtFault("tram abcdefg;" + ahead.substring(13) + "abcdefg;", 3, 897);
        Texts.districtFault("street a;" + Calls.times(892, " ") + "street a;", 1, 900);
        Texts.districtFault("street A;" + Calls.times(892, " "), 1, 7);
        String streets = "street a;street b;street c;street d;";
        Texts.districtFault(streets + Calls.times(863, " ") + "street e;", 4, 899);
        Texts.districtFault(streets + Calls.times(864, " ") + "street e;", 1, 900);
    }

    private static void districtAfterFault() {
        OboeDistrict x = Calls.town(Calls.TOWN);
        x.years(1);
        Calls.sentence(x, "away");
        Calls.due("a district with a fault", Calls.district(x, "street a;street a;"), -17);
        Calls.due("persons behind it", x.count(2), 5);
        Calls.due("year behind it", x.now(0), 1);
        Calls.due("sentence behind it", x.said(-1), 1);
        Calls.due("undo behind it", x.undo(), 0);
        Calls.due("a new district", Calls.district(x, Calls.PAIR), 6);
        Calls.due("sentence of a new district", x.said(-1), -1);
        Calls.due("nothing of it is to be undone", x.undo(), -1);
        Calls.due("persons of a new district", x.count(2), 2);
        x.years(2);
        Calls.district(x, Calls.PAIR);
        for (int what : new int[] {0, 2, 5}) {
            Calls.due("now(" + what + ") of a new district", x.now(what), 0);
        }
    }

    private static void bookFaults() {
        Texts.bookFine("", 0);
        Texts.bookFine("p gets m;p loses m;p leaves;p comes;year 60;", 5);
        Texts.bookFault("q gets m;", 3, 0);
        Texts.bookFault("m gets m;", 3, 0);
        Texts.bookFault("p gets a;", 3, 7);
        Texts.bookFault("p gets z;", 3, 7);
        Texts.bookFault("p loses t;", 3, 8);
        Texts.bookFault("p moves m;", 3, 8);
        Texts.bookFault("p gets year;", 1, 7);
        Texts.bookFault("p gets;", 1, 6);
        Texts.bookFault("p leaves a;", 1, 9);
        Texts.bookFault("p has m;", 1, 2);
        Texts.bookFault("p year 1;", 1, 2);
        Texts.bookFault("p m;", 1, 2);
        Texts.bookFault("gets m;", 1, 0);
        Texts.bookFault("street a;", 1, 0);
        Texts.bookFault("1;", 1, 0);
        Texts.bookFault("year;", 1, 4);
        Texts.bookFault("year 0;", 2, 5);
        Texts.bookFault("year 61;", 2, 5);
        Texts.bookFault("year 1000;", 1, 5);
        Texts.bookFault("year 1", 1, 6);
        Texts.bookFault("year 1;p comes;q", 3, 15);
    }

    private static void bookLines() {
        String forty = Calls.times(40, "year 1;");
        Texts.bookFine(forty, 40);
        Texts.bookFault(forty + "year 1;", 4, 280);
        Texts.bookFault(forty + " p leaves;", 4, 281);
        Texts.bookFault(forty + "q leaves;", 3, 280);
        Texts.bookFault(forty + "gets;", 1, 280);
        Texts.bookFault(forty + ";", 1, 280);
    }

    private static void bookLength() {
        Texts.bookFine("year 1;" + Calls.times(393, " "), 1);
        Texts.bookFault("year 1;" + Calls.times(394, " "), 1, 400);
        Texts.bookFault(Calls.times(398, " ") + "year 1;", 1, 400);
        Texts.bookFault(Calls.times(396, " ") + "yearling;", 1, 396);
        Texts.bookFault(Calls.times(396, " ") + "someone;", 3, 396);
        Texts.bookFault(Calls.times(399, " ") + "someone;", 3, 399);
        Texts.bookFault(Calls.times(400, " ") + "someone;", 1, 400);
    }

    private static void sentenceFaults() {
        Texts.sentenceFine("away", 1);
        Texts.sentenceFine("not man and(woman or has m)", 5);
        Texts.sentenceFine("minds<999", 1);
        Texts.sentenceFine("minds = 000 or marks > 1 or number < 10", 3);
        Texts.sentenceFault("", 1, 0);
        Texts.sentenceFault("  ", 1, 2);
        Texts.sentenceFault("p", 1, 0);
        Texts.sentenceFault("man;", 1, 3);
        Texts.sentenceFault("man woman", 1, 4);
        Texts.sentenceFault("man and", 1, 7);
        Texts.sentenceFault("man or or man", 1, 7);
        Texts.sentenceFault("and man", 1, 0);
        Texts.sentenceFault("not", 1, 3);
        Texts.sentenceFault("(man", 1, 4);
        Texts.sentenceFault("man)", 1, 3);
        Texts.sentenceFault("()", 1, 1);
        Texts.sentenceFault("has", 1, 3);
        Texts.sentenceFault("has man", 1, 4);
        Texts.sentenceFault("has t", 3, 4);
        Texts.sentenceFault("has z", 3, 4);
        Texts.sentenceFault("in m", 3, 3);
        Texts.sentenceFault("rides a", 3, 6);
        Texts.sentenceFault("minds 3", 1, 6);
        Texts.sentenceFault("minds < x", 1, 8);
        Texts.sentenceFault("minds < = 3", 1, 8);
        Texts.sentenceFault("minds < 1000", 1, 8);
        Texts.sentenceFault("mark < 1", 1, 0);
        Texts.sentenceFault("gets m", 1, 0);
    }

    private static void sentenceOnes() {
        String twenty = Calls.times(19, "man or ") + "away";
        Texts.sentenceFine(twenty, 20);
        Texts.sentenceFault(twenty + " and woman", 4, twenty.length() + 5);
        Texts.sentenceFault(twenty + " and (man)", 4, twenty.length() + 5);
        Texts.sentenceFault(twenty + " and ;", 1, twenty.length() + 5);
        Texts.sentenceFault(twenty + " and p", 1, twenty.length() + 5);
        String ten = Calls.times(9, "not man or ") + "(man)";
        Texts.sentenceFine(ten, 20);
        Texts.sentenceFault(ten + "or not man", 4, ten.length() + 3);
        Texts.sentenceFault(Calls.times(19, "man or ") + "not man", 4, 19 * 7 + 4);
    }

    private static void sentenceWithin() {
        Texts.sentenceFine(Calls.times(7, "not ") + "man", 8);
        Texts.sentenceFault(Calls.times(8, "not ") + "man", 4, 32);
        Texts.sentenceFault(Calls.times(8, "not ") + "not man", 4, 32);
        Texts.sentenceFault(Calls.times(8, "not "), 1, 32);
        Texts.sentenceFine(Calls.times(7, "(") + "man" + Calls.times(7, ")"), 8);
        Texts.sentenceFault(Calls.times(8, "(") + "man" + Calls.times(8, ")"), 4, 8);
        Texts.sentenceFine("((not(not(not man)))) and not not man", 11);
        Texts.sentenceFault("not(not(not(not(not man or not man))))", 4, 16);
        Texts.sentenceFault("not(not(not(man or not not man)))", 4, 27);
    }

    private static void sentenceLength() {
        Texts.sentenceFine("man" + Calls.times(197, " "), 1);
        Texts.sentenceFault("man" + Calls.times(198, " "), 1, 200);
        Texts.sentenceFine(Calls.times(197, " ") + "man", 1);
        Texts.sentenceFault(Calls.times(196, " ") + "woman", 1, 200);
        Texts.sentenceFault(Calls.times(193, " ") + "has trumpet", 3, 197);
        Texts.sentenceFault(Calls.times(196, " ") + "minds < 3", 1, 200);
        Texts.sentenceFault(Calls.times(195, " ") + "has trumpet", 3, 199);
        Texts.sentenceFault(Calls.times(196, " ") + "has trumpet", 1, 200);
    }

    private static void faultStays() {
        OboeDistrict x = new OboeDistrict();
        Calls.due("fault ahead of any", x.fault(), 0);
        Calls.due("a book of a wrong name", Calls.book(x, "q comes;", 0), -2);
        Calls.due("its fault", x.fault(), 3);
        Calls.due("book(2)", x.book(2), -1000);
        Calls.due("fault behind book(2)", x.fault(), 3);
        Calls.due("counts()", Calls.counts(x, 0, 0), 1);
        Calls.due("fault behind counts()", x.fault(), 3);
        Calls.due("sentence", Calls.sentence(x, "man"), 1);
        Calls.due("fault behind a sentence", x.fault(), 0);
    }
}
