/** The edges of the Terms, sentence by sentence: tokens, the three kinds of texts, their faults (promises 4, 5, 40 and 42). */
public final class TermsEdgesTest {
    private static final String ONE = Texts.ONE;
    private static final int AT = ONE.length();
    private static final String STREETS = "street a;street b;street c;street d;";
    private static final String TRAMS = "tram e;tram f;tram g;";
    private static final String MARKS = "mark h 1 2;mark i 1 2;mark j 1 2;";

    public static void main(String[] args) {
        blanks();
        words();
        numbers();
        signs();
        runs();
        districtBytes();
        districtLines();
        minds();
        awayOrNot();
        shares();
        hates();
        eachTwoOnce();
        names();
        namesOnce();
        fullSorts();
        allNamesOfAFullDistrict();
        numberedFromZero();
        bookBytes();
        bookLines();
        bookYears();
        sentenceBytes();
        sentenceOnes();
        sentenceWithin();
        orBehindAnd();
        longestSentences();
        inAwayOrNot();
        numbersOfSentences();
        firstAlongTheText();
        leastOfOneToken();
        noToken();
        mostBytesTold();
        readWhole();
        wrongNumbers();
        wrongNames();
        atTheSecond();
        tooMany();
        newDistrict();
        throwsChangeNothing();
        Calls.finish("TermsEdgesTest");
    }

    private static String spaces(int n) {
        return Calls.times(n, " ");
    }

    private static void blanks() {
        Calls.terms("4, 40 and 42", "TOKENS of all texts, with blanks (32, 10) between them or not");
        Texts.districtFine("street a;tram b;mark c 1 2;", 3);
        Texts.districtFine("\n\n street \n a\n; \ntram\nb ;mark c\n1\n2 ;\n", 3);
        for (int b = 0; b < 256; b++) {
            String text = "street" + (char) b + "a;";
            if (b == 32 || b == 10) {
                Texts.districtFine(text, 1);
            } else {
                boolean goesOn = b >= 'a' && b <= 'z' || b >= '0' && b <= '9';
                Texts.districtFault(text, 1, goesOn ? 0 : 6);
            }
        }
        Texts.bookFine("year\n1;year 2 ;\np leaves\n;", 3);
        Texts.bookFault("year\t1;", 1, 4);
        Texts.sentenceFine("(minds<3)or(marks>0)or\nnot man", 6);
        Texts.sentenceFine(" ( minds < 3 ) ", 2);
        Texts.sentenceFault("minds\r< 3", 1, 5);
    }

    private static void words() {
        Calls.terms("4, 40 and 42", "WORDS: small letters, 1 to 7");
        for (int b = 0; b < 256; b++) {
            String text = "street " + (char) b + ";";
            if (b >= 'a' && b <= 'z') {
                Texts.districtFine(text, 1);
            } else {
                Texts.districtFault(text, 1, b == 32 || b == 10 ? 8 : 7);
            }
        }
        Texts.districtFine("street abcdefg;street zzzzzzz;street zzzzzzy;street azzzzzz;", 4);
        Texts.districtFault("street abcdefgh;", 1, 7);
        Texts.districtFault("street " + Calls.times(300, "a") + ";", 1, 7);
        Texts.districtFault("streets a;", 1, 0);
        Texts.districtFault("stree a;", 1, 0);
        Texts.districtFault("Street a;", 1, 0);
        // A name told twice is known by all its seven letters, and by each of them.
        Texts.districtFault("street abcdefg;tram abcdefg;", 3, 20);
        Texts.districtFine("street abcdefg;tram bbcdefg;street abcdef;street aabcdef;", 4);
        Texts.bookFault("pabcdefg leaves;", 1, 0);
        Texts.sentenceFault("has mabcdefg", 1, 4);
    }

    private static void numbers() {
        Calls.terms("4, 40 and 42", "NUMBERS: 1 to 3 digits");
        for (int b = 0; b < 256; b++) {
            String text = "mark m 0 " + (char) b + ";";
            if (b >= '1' && b <= '9') {
                Texts.districtFine(text, 1);
            } else {
                Texts.districtFault(text, b == '0' ? 2 : 1, b == 32 || b == 10 ? 10 : 9);
            }
        }
        for (String seven : new String[] {"7", "07", "007"}) {
            OboeDistrict x = Calls.town("street a;person p a man " + seven + ";");
            Calls.due("minds " + seven, x.person(0, 2), 7);
        }
        Texts.districtFault("street a;person p a man 0007;", 1, 24);
        Texts.districtFault("street a;person p a man 1000;", 1, 24);
        Texts.districtFault("street a;person p a man 4294967303;", 1, 24);
        Texts.districtFault("street a;person p a man 18446744073709551623;", 1, 24);
        Texts.bookFine("year 001;", 1);
        Texts.bookFault("year 0001;", 1, 5);
        Texts.sentenceFine("minds > 999", 1);
        Texts.sentenceFine("minds > 000", 1);
        Texts.sentenceFault("minds > 1000", 1, 8);
        Texts.sentenceFault("minds > 0000", 1, 8);
    }

    private static void signs() {
        Calls.terms("4 and 42", "; < = > ( ) .");
        for (int b = 0; b < 256; b++) {
            boolean isWordOrNumber = b >= 'a' && b <= 'z' || b >= '0' && b <= '9';
            boolean isBlank = b == 32 || b == 10;
            String end = "street a" + (char) b;
            if (b == ';') {
                Texts.districtFine(end, 1);
            } else {
                Texts.districtFault(end, 1, isBlank ? 9 : b >= '0' && b <= '9' ? 7 : b >= 'a' && b <= 'z' ? 9 : 8);
            }
            String sign = "minds" + (char) b + "1";
            if (b == '<' || b == '=' || b == '>') {
                Texts.sentenceFine(sign, 1);
            } else {
                Texts.sentenceFault(sign, 1, isBlank ? 6 : isWordOrNumber ? 0 : 5);
            }
            String bracket = (char) b + "man)";
            if (b == '(') {
                Texts.sentenceFine(bracket, 2);
            } else {
                Texts.sentenceFault(bracket, 1, isBlank ? 4 : 0);
            }
            String back = "(man" + (char) b;
            if (b == ')') {
                Texts.sentenceFine(back, 2);
            } else {
                Texts.sentenceFault(back, 1, isBlank ? 5 : isWordOrNumber ? 1 : 4);
            }
        }
    }

    private static void runs() {
        Calls.terms("4, 40 and 42", "(A WORD, NUMBER goes on as long as small letters and digits do; what is not as told is no TOKEN.)");
        Texts.districtFault("street a1;", 1, 7);
        Texts.districtFault("street 1a;", 1, 7);
        Texts.districtFault("streeta;", 1, 0);
        Texts.districtFault("street7 a;", 1, 0);
        Texts.districtFault("mark m1 2;", 1, 5);
        Texts.districtFault("mark m 1x2;", 1, 7);
        Texts.districtFault("street a;person p a man 1away;", 1, 24);
        Texts.districtFault("street aB;", 1, 8);
        Texts.districtFault("street 12A;", 1, 7);
        Texts.bookFault("year1;", 1, 0);
        Texts.bookFault("pgets m;", 3, 0);
        Texts.sentenceFault("minds<3and man", 1, 6);
        Texts.sentenceFault("notman", 1, 0);
        Texts.sentenceFault("man3", 1, 0);
    }

    private static void districtBytes() {
        Calls.terms("4", "A DISTRICT is a text of at most 900 bytes");
        Texts.districtFine("street a;" + spaces(891), 1);
        Texts.districtFine(spaces(891) + "street a;", 1);
        Texts.districtFault("street a;" + spaces(892), 1, 900);
        Texts.districtFault(spaces(892) + "street a;", 1, 900);
        Texts.districtFine(spaces(900), 0);
        Texts.districtFault(spaces(901), 1, 900);
        Texts.districtFault("street a;" + spaces(931), 1, 900);
    }

    private static void districtLines() {
        Calls.terms("4", "{ LINE ; }. LINE");
        Texts.districtFine("", 0);
        Texts.districtFine(" ", 0);
        Texts.districtFine("street a;", 1);
        Texts.districtFault(";", 1, 0);
        Texts.districtFault("street a", 1, 8);
        Texts.districtFault("street a;;", 1, 9);
        Texts.districtFault("street a tram b;", 1, 9);
        Texts.districtFault("street", 1, 6);
        for (String word : new String[] {"man", "woman", "away", "gets", "loses", "moves", "leaves", "comes", "year", "or", "and",
            "not", "in", "minds", "marks", "number", "a", "7", "(", ")", "<", "=", ">"}) {
            Texts.districtFault(word + " a;", 1, 0);
            Texts.districtFault("street a;" + word, 1, 9);
        }
    }

    private static void minds() {
        Calls.terms("4", "(KIND: 'man', 'woman'; 0 to 20)");
        for (int n : new int[] {0, 1, 19, 20}) {
            OboeDistrict x = Calls.town("street a;person p a man " + n + ";person q a woman " + n + ";");
            Calls.due("man", x.person(0, 1), 0);
            Calls.due("woman", x.person(1, 1), 1);
            Calls.due("minds", x.person(1, 2), n);
        }
        Texts.districtFault("street a;person p a man 21;", 2, 24);
        Texts.districtFault("street a;person p a man 999;", 2, 24);
        Texts.districtFault("street a;person p a men 1;", 1, 20);
        Texts.districtFault("street a;person p a away 1;", 1, 20);
        Texts.districtFault("street a;person p a 1;", 1, 20);
    }

    private static void awayOrNot() {
        Calls.terms("4", "'person' NAME STREET KIND MINDS [ 'away' ]");
        OboeDistrict x = Calls.town("street a;person p a man 1 away;person q a man 1;person r a man 1 away;");
        Calls.due("away", x.now(1), 5);
        Texts.districtFault("street a;person p a man 1 away away;", 1, 31);
        Texts.districtFault("street a;person p a man away 1;", 1, 24);
        Texts.districtFault("street a;person p a man 1 here;", 1, 26);
        Texts.districtFault("street a;person p a man;", 1, 23);
        Texts.districtFault("street a;person p a;", 1, 19);
        Texts.districtFault("street a;person p;", 1, 17);
    }

    private static void shares() {
        Calls.terms("4", "(A of B have it: 0 to 40; A, 1 at least, to 40)");
        Texts.districtFine("mark m 0 1;mark n 0 40;mark o 40 40;", 3);
        Texts.districtFine("mark m 1 1;mark n 39 39;mark o 39 40;", 3);
        Texts.districtFault("mark m 0 0;", 2, 9);
        Texts.districtFault("mark m 1 0;", 2, 9);
        Texts.districtFault("mark m 2 1;", 2, 9);
        Texts.districtFault("mark m 40 39;", 2, 10);
        Texts.districtFault("mark m 0 41;", 2, 9);
        Texts.districtFault("mark m 40 41;", 2, 10);
        Texts.districtFault("mark m 41 41;", 2, 7);
        Texts.districtFault("mark m 41 0;", 2, 7);
        Texts.districtFault("mark m 999 1;", 2, 7);
        Texts.districtFault("mark m 1;", 1, 8);
        Texts.districtFault("mark m;", 1, 6);
        Texts.districtFault("mark m 1 2 3;", 1, 11);
    }

    private static void hates() {
        Calls.terms("4", "'hates' PERSON MARK N (1 to 20");
        for (int n : new int[] {1, 2, 19, 20}) {
            OboeDistrict x = Calls.town(ONE + "hates p m " + n + ";");
            Calls.due("burden with " + n, x.burden(0, 0), 1 + n);
        }
        Texts.districtFault(ONE + "hates p m 0;", 2, AT + 10);
        Texts.districtFault(ONE + "hates p m 21;", 2, AT + 10);
        Texts.districtFault(ONE + "hates p m;", 1, AT + 9);
    }

    private static void eachTwoOnce() {
        Calls.terms("4", "each two once for each of these three)");
        String two = ONE + "tram u;mark n 1 2;person q a man 1;";
        Texts.districtFine(two + "rides p t;has p m;hates p m 1;rides p u;has p n;hates p n 1;rides q t;has q m;hates q m 1;", 16);
        Texts.districtFault(ONE + "rides p t;rides p t;", 3, AT + 18);
        Texts.districtFault(ONE + "has p m;has p m;", 3, AT + 14);
        Texts.districtFault(ONE + "hates p m 1;hates p m 2;", 3, AT + 20);
        Texts.districtFault(ONE + "rides p t;has p m;hates p m 1;rides p t;", 3, AT + 38);
        Texts.districtFault(ONE + "rides p t;has p m;hates p m 1;has p m;", 3, AT + 36);
    }

    private static void names() {
        Calls.terms("4", "NAME: a WORD, none of those told here, in a BOOK or a SENTENCE");
        for (String word : new String[] {"street", "tram", "person", "away", "man", "woman", "mark", "rides", "has", "hates",
            "gets", "loses", "moves", "leaves", "comes", "year", "not", "or", "and", "in", "minds", "marks", "number"}) {
            Texts.districtFault("street " + word + ";", 1, 7);
            Texts.districtFault("tram " + word + ";", 1, 5);
            Texts.districtFault("mark " + word + " 1 2;", 1, 5);
            Texts.districtFault("street a;person " + word + " a man 1;", 1, 16);
            Texts.districtFine("street x" + word.substring(1) + ";", 1);
        }
        Texts.districtFine("street kind;street line;street name;street book;", 4);
        Texts.districtFine("street set;street due;street off;street burden;", 4);
        Texts.districtFine("street men;street women;street years;street get;", 4);
        Texts.districtFault("street 7;", 1, 7);
        Texts.districtFault("street ;", 1, 7);
    }

    private static void namesOnce() {
        Calls.terms("4", "told once");
        String[] again = {"street ", "tram ", "mark ", "person "};
        String[] names = {"a", "t", "m", "p"};
        for (String word : again) {
            for (String name : names) {
                Texts.districtFault(ONE + word + name + ";", 3, AT + word.length());
            }
        }
        Texts.districtFault("street a;person a a man 1;", 3, 16);
        Texts.districtFault("street a;person p p man 1;", 3, 18);
    }

    private static String persons(int n) {
        StringBuilder text = new StringBuilder();
        for (int i = 0; i < n; i++) {
            text.append("person ").append((char) ('k' + i)).append(" a man 1;");
        }
        return text.toString();
    }

    private static void fullSorts() {
        Calls.terms("4", "4 STREETS, 3 TRAMS, 10 PERSONS, 3 MARKS at most");
        String full = STREETS + TRAMS + MARKS + persons(10);
        Texts.districtFine(full, 20);
        Texts.districtFine(full + "rides t g;has t j;hates t j 20;", 23);
        Texts.districtFault(STREETS + "street x;", 4, STREETS.length());
        Texts.districtFault(TRAMS + "tram x;", 4, TRAMS.length());
        Texts.districtFault(MARKS + "mark x 1 2;", 4, MARKS.length());
        Texts.districtFault("street a;" + persons(10) + "person x a man 1;", 4, 9 + persons(10).length());
        for (String more : new String[] {"street x;", "tram x;", "mark x 1 2;", "person x a man 1;"}) {
            Texts.districtFault(full + "has t j;" + more, 4, full.length() + 8);
        }
    }

    private static void allNamesOfAFullDistrict() {
        Calls.terms("4", "4 STREETS, 3 TRAMS, 10 PERSONS, 3 MARKS at most");
        // Each of all twenty names is told once, and known as its sort's one of its number.
        String full = MARKS + TRAMS + STREETS + persons(10);
        for (int n = 0; n < 20; n++) {
            String name = "" + (char) ('a' + n);
            Texts.districtFault(full + "rides " + name + " z;", 3, full.length() + (n < 10 ? 6 : 8));
        }
        OboeDistrict x = Calls.town(full);
        for (int p = 0; p < 10; p++) {
            String name = "" + (char) ('k' + p);
            Calls.due(name, Calls.plate(x, p).equals(name + " has none"), true);
            for (int m = 0; m < 3; m++) {
                Calls.book(x, name + " gets " + (char) ('h' + m) + ";", 1);
            }
            Calls.due(name + " has all", x.person(p, 4), 7);
            Calls.due(name + " minds all", x.person(p, 6), 3);
            Calls.due(name, Calls.plate(x, p).equals(name + " has h and i and j"), true);
            Calls.book(x, name + " moves " + "dcb".charAt(p % 3) + ";", 1);
            Calls.due(name + " moved", x.person(p, 0), 3 - p % 3);
        }
        for (int t = 0; t < 3; t++) {
            Calls.due("rides", Calls.sentence(x, "rides " + (char) ('e' + t)), 1);
        }
    }

    private static void numberedFromZero() {
        Calls.terms("4 and 6", "all numbered from 0 each");
        OboeDistrict x = Calls.town(STREETS + TRAMS + MARKS + "person k d man 1;person l a man 2;rides k g;has l h;hates k j 5;");
        Calls.due("street of k", x.person(0, 0), 3);
        Calls.due("street of l", x.person(1, 0), 0);
        Calls.due("trams of k", x.person(0, 5), 4);
        Calls.due("marks of l", x.person(1, 4), 1);
        Calls.due("burden of the last mark", x.burden(0, 2), 6);
        Calls.due("burden of the first mark", x.burden(0, 0), 1);
    }

    private static void bookBytes() {
        Calls.terms("40", "A BOOK is a text of at most 400 bytes");
        Texts.bookFine("year 1;" + spaces(393), 1);
        Texts.bookFine(spaces(393) + "year 1;", 1);
        Texts.bookFine(spaces(400), 0);
        Texts.bookFault("year 1;" + spaces(394), 1, 400);
        Texts.bookFault(spaces(394) + "year 1;", 1, 400);
        Texts.bookFault(spaces(401), 1, 400);
        Texts.bookFault("year 1;" + spaces(933), 1, 400);
    }

    private static void bookLines() {
        Calls.terms("40", "{ LINE ; }, 40 at most");
        String forty = Calls.times(20, "p leaves;p comes;");
        Texts.bookFine("", 0);
        Texts.bookFine(forty, 40);
        Texts.bookFine(Calls.times(40, "year 1;"), 40);
        Texts.bookFault(forty + "p leaves;", 4, forty.length());
        Texts.bookFault(forty + "year 1;", 4, forty.length());
        Texts.bookFault(";", 1, 0);
        Texts.bookFault("year 1", 1, 6);
        Texts.bookFault("year 1 p leaves;", 1, 7);
        Texts.bookFault("p leaves;;", 1, 9);
        Texts.bookFault("street b;", 1, 0);
        Texts.bookFault("p", 1, 1);
        Texts.bookFault("p gets", 1, 6);
        Texts.bookFault("p year 1;", 1, 2);
    }

    private static void bookYears() {
        Calls.terms("40", "'year' N (1 to 60)");
        Texts.bookFine("year 1;year 60;", 2);
        Texts.bookFault("year 0;", 2, 5);
        Texts.bookFault("year 61;", 2, 5);
        Texts.bookFault("year 999;", 2, 5);
        Texts.bookFault("year p;", 1, 5);
    }

    private static void sentenceBytes() {
        Calls.terms("42", "A SENTENCE is a text of at most 200 bytes");
        Texts.sentenceFine("man" + spaces(197), 1);
        Texts.sentenceFine(spaces(197) + "man", 1);
        Texts.sentenceFault("man" + spaces(198), 1, 200);
        Texts.sentenceFault(spaces(198) + "man", 1, 200);
        Texts.sentenceFault("man" + spaces(937), 1, 200);
        Texts.sentenceFault("", 1, 0);
        Texts.sentenceFault(spaces(200), 1, 200);
    }

    private static void sentenceOnes() {
        Calls.terms("42", "20 ONES");
        String twenty = Calls.times(19, "man or ") + "away";
        Texts.sentenceFine(twenty, 20);
        Texts.sentenceFault(twenty + " or man", 4, twenty.length() + 4);
        Texts.sentenceFault(twenty + " and has m", 4, twenty.length() + 5);
        String pairs = Calls.times(9, "not man or ") + "(man)";
        Texts.sentenceFine(pairs, 20);
        Texts.sentenceFault(pairs + "or man", 4, pairs.length() + 3);
        Texts.sentenceFault(Calls.times(19, "man or ") + "not man", 4, 19 * 7 + 4);
        Texts.sentenceFault(Calls.times(19, "man or ") + "(man)", 4, 19 * 7 + 1);
    }

    private static void sentenceWithin() {
        Calls.terms("42", "8 within one another");
        Texts.sentenceFine(Calls.times(7, "not ") + "man", 8);
        Texts.sentenceFine(Calls.times(7, "(") + "man" + Calls.times(7, ")"), 8);
        Texts.sentenceFault(Calls.times(8, "not ") + "man", 4, 32);
        Texts.sentenceFault(Calls.times(8, "(") + "man" + Calls.times(8, ")"), 4, 8);
        Texts.sentenceFault(Calls.times(4, "not(") + "man" + Calls.times(4, ")"), 4, 16);
        Texts.sentenceFine("not(not(not(not man)))or " + Calls.times(7, "not ") + "man", 16);
        Texts.sentenceFine(Calls.times(7, "(") + "man and man or man" + Calls.times(7, ")"), 10);
    }

    private static void says(OboeDistrict x, String text, int due) {
        Calls.due(text + " has a fault", Calls.sentence(x, text) < 0, false);
        int bits = 0;
        int many = x.said(-1);
        for (int k = 0; k < many; k++) {
            bits |= 1 << x.said(k);
        }
        Calls.due(text, bits, due);
    }

    private static void orBehindAnd() {
        Calls.terms("42 and 43", "COND: ALL { 'or' ALL }. ALL: ONE { 'and' ONE }. ONE: 'not' ONE | ( COND )");
        OboeDistrict x = Calls.town(Calls.TOWN);
        says(x, "man or woman and away", 22);
        says(x, "away and woman or man", 22);
        says(x, "(man or woman) and away", 16);
        says(x, "not man and away", 16);
        says(x, "not (man and away)", 31);
        says(x, "not man or man", 31);
        says(x, "not (man or away)", 9);
        says(x, "not not man", 6);
        says(x, "man and away or woman and away or has oboe", 18);
        says(x, "has oboe or has sad or away", 27);
        says(x, "rides red and man and has oboe", 2);
        says(x, "rides blue or in ash and woman", 5);
    }

    private static void longestSentences() {
        Calls.terms("42 and 43", "20 ONES, 8 within one another.");
        OboeDistrict x = Calls.town(Calls.TOWN);
        says(x, Calls.times(19, "man or ") + "away", 22);
        says(x, Calls.times(9, "not man and ") + "not away", 9);
        says(x, Calls.times(7, "not ") + "man", 25);
        says(x, Calls.times(6, "(") + "man or away and woman" + Calls.times(6, ")") + "or number=0", 23);
        // As many wait for their 'or' as can: each bracket is within the last one.
        says(x, "number=0 or(number=1 and man or(number=1 or(number=2 and man or(number=9 or(number=3 and woman or(number=9 or(number=4)))))))", 31);
    }

    private static void inAwayOrNot() {
        Calls.terms("43", "'in' STREET (away or not)");
        OboeDistrict x = Calls.town("street a;street b;person p a man 1;person q b man 1 away;person r b man 1;");
        Calls.sentence(x, "in b");
        Calls.due("how many are in b", x.said(-1), 2);
        Calls.due("q", x.said(0), 1);
        Calls.due("r", x.said(1), 2);
        x.leave(0);
        Calls.sentence(x, "in a");
        Calls.due("p", x.said(0), 0);
        Calls.terms("43", "It is said of PERSONS.");
        Calls.sentence(x, "man");
        Calls.due("away or not", x.said(-1), 3);
    }

    private static void numbersOfSentences() {
        Calls.terms("43", "(MINDS; how many MARKS he has; his number). SIGN: < = >.");
        OboeDistrict x = Calls.town("street a;mark m 1 2;mark n 1 2;mark o 1 2;person p a man 0;person q a man 20;person r a man 5 away;"
                + "has q m;has q n;has q o;has r o;");
        String[] texts = {"minds<1", "minds<0", "minds>19", "minds>20", "minds=20", "minds=0", "minds<999", "minds=999",
            "marks<1", "marks=3", "marks>2", "marks>3", "marks=1", "number<1", "number=0", "number>1", "number=2", "number>2", "number=999"};
        int[] due = {1, 0, 2, 0, 2, 1, 7, 0, 1, 2, 2, 0, 4, 1, 1, 4, 4, 0, 0};
        for (int i = 0; i < texts.length; i++) {
            says(x, texts[i], due[i]);
        }
    }

    private static void firstAlongTheText() {
        Calls.terms("5", "FAULTS, the first along the text");
        Texts.districtFault("street a;street a;mark m 9 1;B", 3, 16);
        Texts.districtFault("mark m 9 1;street a;street a;B", 2, 9);
        Texts.districtFault("mark m B 9 1;street a;street a;", 1, 7);
        Texts.districtFault("mark m 41 1 B", 2, 7);
        Texts.districtFault(STREETS + "street a B", 4, STREETS.length());
        Texts.bookFault("year 61;z leaves;", 2, 5);
        Texts.bookFault("z leaves;year 61;", 3, 0);
        Texts.bookFault("p gets z B", 3, 7);
        Texts.sentenceFault("has z or B", 3, 4);
        Texts.sentenceFault("B or has z", 1, 0);
        // The fault may lie in what is no TOKEN, far behind a fault of another kind.
        Texts.districtFault("street a;tram a;" + spaces(20) + "\u00ff", 3, 14);
        Texts.districtFault("street a;tram a;" + spaces(900), 3, 14);
    }

    private static void leastOfOneToken() {
        Calls.terms("5", "of one TOKEN the least");
        String forty = Calls.times(40, "year 1;");
        Texts.bookFault(forty + "z leaves;", 3, 280);
        Texts.bookFault(forty + "m leaves;", 3, 280);
        Texts.bookFault(forty + "gets;", 1, 280);
        Texts.bookFault(forty + ";", 1, 280);
        Texts.bookFault(forty + "7;", 1, 280);
        Texts.bookFault(forty + "B", 1, 280);
        Texts.bookFault(forty + "p B", 4, 280);
        String twenty = Calls.times(19, "man or ") + "man";
        Texts.sentenceFault(twenty + " or ;", 1, twenty.length() + 4);
        Texts.sentenceFault(twenty + " or p", 1, twenty.length() + 4);
        Texts.sentenceFault(twenty + " or or", 1, twenty.length() + 4);
        Texts.sentenceFault(twenty + " or 7", 1, twenty.length() + 4);
        Texts.sentenceFault(twenty + " or )", 1, twenty.length() + 4);
        Texts.sentenceFault(twenty + " or ", 1, twenty.length() + 4);
        Texts.sentenceFault(twenty + " or has z", 4, twenty.length() + 4);
        Texts.sentenceFault(Calls.times(8, "not ") + "p", 1, 32);
        Texts.sentenceFault(Calls.times(8, "(") + ")", 1, 8);
        Texts.districtFault(STREETS + "street street;", 4, STREETS.length());
    }

    private static void noToken() {
        Calls.terms("5", "1 no TOKEN, or one that can't come (at it; the end: how many bytes there are");
        Texts.districtFault("street a;  \u0080", 1, 11);
        Texts.districtFault("street a;  \u00ff", 1, 11);
        Texts.districtFault("street a;tram", 1, 13);
        Texts.districtFault("street a;tram \n ", 1, 16);
        Texts.districtFault("street a;tram b  ", 1, 17);
        Texts.bookFault("p  \n", 1, 4);
        Texts.bookFault("year 1  ", 1, 8);
        Texts.sentenceFault("  ", 1, 2);
        Texts.sentenceFault("not ", 1, 4);
        Texts.sentenceFault("man and ", 1, 8);
        Texts.sentenceFault("(man ", 1, 5);
        Texts.sentenceFault("minds", 1, 5);
        Texts.sentenceFault("minds <", 1, 7);
        Texts.sentenceFault("has ", 1, 4);
        Texts.sentenceFault("man man", 1, 4);
        Texts.sentenceFault("man)", 1, 3);
        Texts.sentenceFault("man;", 1, 3);
        // The end is at all bytes, full texts too.
        Texts.districtFault("street" + spaces(894), 1, 900);
        Texts.bookFault("year" + spaces(396), 1, 400);
        Texts.sentenceFault("not" + spaces(197), 1, 200);
    }

    private static void mostBytesTold() {
        Calls.terms("5", "the most bytes told, if there are more and no FAULT is ahead");
        Texts.districtFault(spaces(900) + "street a;", 1, 900);
        Texts.districtFault(spaces(930) + "street a;", 1, 900);
        Texts.districtFault(spaces(900) + "B", 1, 900);
        Texts.districtFault("street a;tram" + spaces(900), 1, 900);
        Texts.districtFault("street A;" + spaces(900), 1, 7);
        Texts.districtFault(spaces(890) + "street ;;;;;", 1, 897);
        Texts.districtFault(STREETS + spaces(863) + "street e;", 4, 899);
        Texts.districtFault(STREETS + spaces(864) + "street e;", 1, 900);
        Texts.bookFault(spaces(400) + "z", 1, 400);
        Texts.bookFault(spaces(399) + "z ", 3, 399);
        Texts.bookFault(spaces(393) + "year 61 ", 2, 398);
        Texts.bookFault(spaces(393) + "year 60;;", 1, 400);
        Texts.sentenceFault(spaces(200) + "man", 1, 200);
        Texts.sentenceFault("man or" + spaces(195), 1, 200);
        Texts.sentenceFault("man or or" + spaces(195), 1, 7);
    }

    private static void readWhole() {
        Calls.terms("5", "TOKENS that begin ahead of it are read whole");
        // The name goes on behind the most bytes: it is a TOKEN, and told, if no more is wrong ahead.
        Texts.districtFault(spaces(892) + "street abcdefg;", 1, 900);
        Texts.districtFault(spaces(892) + "street abcdefgh;", 1, 899);
        Texts.districtFault("tram abcdefg;" + spaces(879) + "street abcdefg;", 3, 899);
        Texts.districtFault("tram abcdefg;" + spaces(879) + "street abcdefh;", 1, 900);
        Texts.districtFault(spaces(891) + "mark m 0 40;", 1, 900);
        Texts.districtFault(spaces(890) + "mark m 0 041;", 2, 899);
        Texts.districtFault(spaces(890) + "mark m 0 0400;", 1, 899);
        Texts.districtFault(spaces(899) + "street a;", 1, 900);
        Texts.districtFault(spaces(899) + "streets a;", 1, 899);
        Texts.districtFault(spaces(899) + "away;", 1, 899);
        Texts.bookFault(spaces(399) + "person;", 1, 399);
        Texts.bookFault(spaces(399) + "someone;", 3, 399);
        Texts.bookFault(spaces(394) + "year 61;", 2, 399);
        Texts.bookFault(spaces(394) + "year 60;", 1, 400);
        Texts.sentenceFault(spaces(199) + "woman", 1, 200);
        Texts.sentenceFault(spaces(199) + "person", 1, 199);
        Texts.sentenceFault(spaces(195) + "has trumpet", 3, 199);
        Texts.sentenceFault(spaces(196) + "has trumpet", 1, 200);
    }

    private static void wrongNumbers() {
        Calls.terms("5", "2 a NUMBER that is not as told (at it)");
        Texts.districtFault("street a;person p a woman  21 away;", 2, 27);
        Texts.districtFault("mark m  41 0;", 2, 8);
        Texts.districtFault("mark m 3  2;", 2, 10);
        Texts.districtFault(ONE + "hates p m  0;", 2, AT + 11);
        Texts.bookFault("year  00;", 2, 6);
        Texts.sentenceFine("minds = 21 or marks = 4 or number = 10", 3);
    }

    private static void wrongNames() {
        Calls.terms("5", "3 a NAME told twice, not told, or of another sort");
        Texts.districtFault("street a;  street a;", 3, 18);
        Texts.districtFault("person p a man 1;street a;", 3, 9);
        Texts.districtFault("tram t;person p t man 1;", 3, 16);
        for (String line : new String[] {"rides z t;", "rides t t;", "has m m;", "hates a m 1;"}) {
            Texts.districtFault(ONE + line, 3, AT + line.indexOf(' ') + 1);
        }
        for (String line : new String[] {"rides p z;", "rides p m;", "rides p p;", "has p t;", "has p a;", "has p z;", "hates p t 99;", "hates p z 1;"}) {
            Texts.districtFault(ONE + line, 3, AT + line.indexOf(" p ") + 3);
        }
        for (String line : new String[] {"z leaves;", "a leaves;", "t leaves;", "m leaves;"}) {
            Texts.bookFault(line, 3, 0);
        }
        for (String line : new String[] {"p gets z;", "p gets t;", "p gets a;", "p gets p;", "p loses a;", "p moves m;", "p moves z;", "p moves t;"}) {
            Texts.bookFault(line, 3, line.lastIndexOf(' ') + 1);
        }
        for (String text : new String[] {"has z", "has t", "has a", "has p", "in z", "in m", "in t", "in p", "rides z", "rides a", "rides m", "rides p"}) {
            Texts.sentenceFault(text, 3, text.indexOf(' ') + 1);
        }
    }

    private static void atTheSecond() {
        Calls.terms("5", "two told together again (at the second)");
        Texts.districtFault(ONE + "rides p t;rides p  t;", 3, AT + 19);
        Texts.districtFault(ONE + "has p m;has  p m;", 3, AT + 15);
        Texts.districtFault(ONE + "hates p m 20;hates p m 0;", 3, AT + 21);
        Texts.districtFault(ONE + "hates p m 20;hates p m", 3, AT + 21);
    }

    private static void tooMany() {
        Calls.terms("5", "4 one more than there may be of a sort, a 41st LINE of a BOOK (at the LINE's first WORD)");
        Texts.districtFault(STREETS + "  street e;", 4, STREETS.length() + 2);
        Texts.districtFault(STREETS + "street", 4, STREETS.length());
        Texts.districtFault(TRAMS + " tram 7", 4, TRAMS.length() + 1);
        Texts.districtFault(MARKS + "\nmark h", 4, MARKS.length() + 1);
        Texts.districtFault("street a;" + persons(10) + " person B", 4, 10 + persons(10).length());
        Texts.bookFault(Calls.times(40, "year 1;") + " year 0;", 4, 281);
        Texts.bookFault(Calls.times(40, "year 1;") + " p has;", 4, 281);
        Calls.terms("5", "a 21st ONE, a ninth within (at its first TOKEN)");
        String twenty = Calls.times(19, "man or ") + "man";
        for (String one : new String[] {"not", "(", "away", "man", "woman", "has", "in", "rides", "minds", "marks", "number"}) {
            Texts.sentenceFault(twenty + " or  " + one, 4, twenty.length() + 5);
            Texts.sentenceFault(Calls.times(8, "not ") + " " + one, 4, 33);
            Texts.sentenceFault(Calls.times(8, "(") + "  " + one, 4, 10);
        }
    }

    private static void newDistrict() {
        Calls.terms("4", "A new DISTRICT: YEAR 0, no WRONG, no SENTENCE.");
        OboeDistrict x = Calls.town(Calls.TOWN);
        Calls.sentence(x, "away");
        x.give(2, 0);
        x.years(3);
        x.leave(3);
        x.years(3);
        // The latest question looked ahead into later years.
        x.settles();
        Calls.due("wrongs", x.now(2) > 0, true);
        Calls.due("district", Calls.district(x, "street a;mark m 1 1;person p a man 1;person q a man 1;has q m;"), 5);
        for (int what : new int[] {0, 1, 2, 5}) {
            Calls.due("now(" + what + ")", x.now(what), 0);
        }
        Calls.due("said(-1)", x.said(-1), -1);
        Calls.due("said(0)", x.said(0), -1);
        Calls.due("marks of p", x.person(0, 4), 0);
        Calls.due("marks of q", x.person(1, 4), 1);
        Calls.due("all", x.members(0), 3);
        x.leave(1);
        x.years(5);
        x.settles();
        Calls.due("the empty one", x.district(), 0);
        for (int what = 0; what < 6; what++) {
            Calls.due("now(" + what + ")", x.now(what), 0);
        }
    }

    private static void throwsChangeNothing() {
        Calls.terms("6", "A call that throws changes nothing.");
        OboeDistrict x = Calls.town(Calls.TOWN);
        Calls.sentence(x, "away or B");
        x.give(0, 0);
        Calls.tell(x, "year 1;");
        for (int none : Calls.outside(7)) {
            Calls.due("person(0, " + none + ") throws", Calls.personThrows(x, 0, none), true);
            Calls.due("person(" + none + ", 0) throws", Calls.personThrows(x, none, 0), none < 0 || none > 4);
        }
        Calls.due("fault", x.fault(), 1);
        Calls.due("bytes", x.count(5), 7);
        Calls.due("book", x.book(0), -1);
        Calls.due("marks of ann", x.person(0, 4), 3);
        Calls.due("undo", x.undo(), 0);
    }
}
