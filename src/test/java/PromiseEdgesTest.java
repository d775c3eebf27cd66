/** The edges of promises 1 to 46: each sentence that names one has a test here, below the sentence's own words. */
public final class PromiseEdgesTest {
    private static final int NONE = OboeDistrict.NONE;
    private static final int SETS = 9;
    private static final int PERSONS = 5;
    private static final int MARKS = 2;
    private static final int STREETS = 2;
    private static final int TRAMS = 2;
    private static final int SPACES = 0x20202020;

    public static void main(String[] args) {
        aNewObject();
        feedsInOrder();
        feedsThatAreTooMany();
        ends();
        districts();
        districtsWithFaults();
        faults();
        persons();
        noSuchMarks();
        noSuchSets();
        rests();
        nowOfOthers();
        acts();
        movesAndLeaves();
        years();
        undoKeepsEight();
        undoOfWhat();
        undoOfNothingDone();
        leasts();
        families();
        changes();
        houses();
        boths();
        spareds();
        counts();
        looks();
        cuts();
        settles();
        plates();
        drawns();
        odds();
        oddsNearTheEnd();
        booksOfOtherLives();
        booksJudgedAndLived();
        booksWithFaults();
        toldWhy();
        toldThen();
        sentences();
        saids();
        images();
        restores();
        countsOfOthers();
        Calls.eachPromiseIsQuoted();
        Calls.finish("PromiseEdgesTest");
    }

    private static void due(String what, long got, long want) {
        Calls.due(what, got, want);
    }

    private static OboeDistrict town() {
        return Calls.town(Calls.TOWN);
    }

    /** How all is, in one number, to see whether anything changed. */
    private static long allThatIsSo(OboeDistrict x) {
        long sum = x.said(-1);
        for (int what = 0; what < 6; what++) {
            sum = sum * 31 + x.now(what);
        }
        int persons = x.count(2);
        for (int p = 0; p < persons; p++) {
            sum = (sum * 31 + x.person(p, 0)) * 31 + x.person(p, 4);
        }
        return sum;
    }

    private static void aNewObject() {
        Calls.says(1, "An empty DISTRICT; an empty tape.");
        OboeDistrict x = new OboeDistrict();
        int[] counts = {0, 0, 0, 0, 5, 0};
        for (int what = 0; what < 6; what++) {
            due("count(" + what + ")", x.count(what), counts[what]);
            due("now(" + what + ")", x.now(what), 0);
        }
        for (int s = 0; s < 5; s++) {
            due("members(" + s + ")", x.members(s), 0);
        }
        due("members(5)", x.members(5), NONE);
        Calls.due("person(0, 0) throws", Calls.personThrows(x, 0, 0), true);
        due("off(0)", x.off(0), NONE);
        due("the empty tape", x.district(), 0);
        OboeDistrict other = town();
        due("one object is not another", other.count(2) + x.count(2), 5);
    }

    private static void feedsInOrder() {
        Calls.says(2, "Twenty bytes come behind the tape, of each number the highest first: how many it has");
        OboeDistrict x = new OboeDistrict();
        due("feed", x.feed(0x73747265, 0x65742061, 0x3B747261, 0x6D20623B, 0x73747265), 20);
        due("feed", x.feed(0x65742063, 0x3B202020, SPACES, SPACES, 0x202020FF), 40);
        Calls.due("end(39)", x.end(39), true);
        due("street a;tram b;street c;", x.district(), 3);
        x.feed(SPACES, SPACES, SPACES, SPACES, SPACES);
        x.feed(SPACES, SPACES, SPACES, SPACES, 0x202020FF);
        due("the fortieth byte", x.district(), -1 - 39);
        x.feed(0xFF202020, SPACES, SPACES, SPACES, SPACES);
        due("the first byte", x.district(), -1);
        x.feed(SPACES, 0x20FF2020, SPACES, SPACES, SPACES);
        due("the sixth byte", x.district(), -1 - 5);
        x.feed(SPACES, SPACES, SPACES, 0x2020FF20, SPACES);
        due("the fifteenth byte", x.district(), -1 - 14);
    }

    private static void feedsThatAreTooMany() {
        Calls.says(2, "NONE, and none come, if it would have more than 940.");
        OboeDistrict x = new OboeDistrict();
        for (int i = 1; i <= 47; i++) {
            due("feed " + i, x.feed(SPACES, SPACES, SPACES, SPACES, SPACES), 20 * i);
        }
        due("feed 48", x.feed(-1, -1, -1, -1, -1), NONE);
        due("none come", x.count(5), 940);
        Calls.due("end(921)", x.end(921), true);
        due("941 would be too many", x.feed(-1, -1, -1, -1, -1), NONE);
        due("none come", x.count(5), 921);
        Calls.due("end(920)", x.end(920), true);
        due("940 are not", x.feed(SPACES, SPACES, SPACES, SPACES, SPACES), 940);
        Calls.due("end(880)", x.end(880), true);
        due("none had come: blanks alone", x.district(), 0);
    }

    private static void ends() {
        Calls.says(3, "The tape has its first n bytes alone: true; false, if it has not so many, or n is below 0.");
        OboeDistrict x = new OboeDistrict();
        Calls.due("end(0) of none", x.end(0), true);
        Calls.due("end(1) of none", x.end(1), false);
        Calls.tell(x, "street a;tram b;");
        for (int none : new int[] {17, 20, 940, 941, -1, -16, Integer.MIN_VALUE, Integer.MAX_VALUE}) {
            Calls.due("end(" + none + ")", x.end(none), false);
            due("the tape behind end(" + none + ")", x.count(5), 16);
        }
        Calls.due("end(16), all", x.end(16), true);
        due("all", x.count(5), 16);
        Calls.due("end(9)", x.end(9), true);
        due("nine", x.count(5), 9);
        Calls.due("end(10), no more", x.end(10), false);
        due("the first nine", x.district(), 1);
        // What is cut off is not read, though it would go on.
        Calls.tell(x, "mannish");
        x.end(3);
        due("man", x.sentence(), 1);
        Calls.tell(x, "minds<1000");
        x.end(9);
        due("minds<100", x.sentence(), 1);
        Calls.tell(x, "street abcdefgh;");
        x.end(14);
        due("street abcdefg", x.district(), -1 - 14);
        x.feed(0x0000FFFF, -1, -1, -1, -1);
        x.end(2);
        due("a pair of bytes", x.counts(), 1);
        Calls.tell(x, "street a;");
        Calls.due("end(0)", x.end(0), true);
        due("none", x.count(5), 0);
        due("an empty district", x.district(), 0);
    }

    private static void districts() {
        Calls.says(4, "The tape (empty then, here and below) is the DISTRICT now: how many LINES");
        OboeDistrict x = new OboeDistrict();
        due("18 lines", Calls.district(x, Calls.TOWN), 18);
        due("the tape", x.count(5), 0);
        due("persons", x.count(2), 5);
        due("no lines", x.district(), 0);
        due("an empty district", x.count(2), 0);
        Calls.tell(x, "year 1;");
        x.book(0);
        due("the tape behind a book", x.count(5), 0);
        Calls.tell(x, "away");
        x.sentence();
        due("the tape behind a sentence", x.count(5), 0);
        Calls.tell(x, "\u0000\u0000");
        x.counts();
        due("the tape behind counts", x.count(5), 0);
        for (int kind = 0; kind < 4; kind++) {
            Calls.tell(x, "B");
            int answer = kind == 0 ? x.district() : kind == 1 ? x.book(0) : kind == 2 ? x.sentence() : x.counts();
            Calls.due("refused", answer < 0, true);
            due("the tape behind one that is refused", x.count(5), 0);
        }
    }

    private static void districtsWithFaults() {
        Calls.says(4, "-1 less the place of a FAULT: it stays.");
        OboeDistrict x = town();
        Calls.sentence(x, "woman");
        x.give(0, 0);
        x.years(2);
        long was = allThatIsSo(x);
        due("a fault at 0", Calls.district(x, "B"), -1);
        due("a fault at 16", Calls.district(x, "street a;street a;"), -17);
        due("a fault at 900", Calls.district(x, "street a;" + Calls.times(931, " ")), -901);
        due("a fault behind persons", Calls.district(x, "street a;person b a man 1;person c a man 2 away;mark m 1 2;has b m;has b"), -73);
        due("all that is so stays", allThatIsSo(x), was);
        due("what can be undone, too", x.undo(), 1);
        due("a new one leaves nothing to undo", Calls.district(x, Calls.PAIR), 6);
        due("nothing", x.undo(), NONE);
        due("its persons", x.count(2), 2);
    }

    private static void faults() {
        Calls.says(5, "The kind of the FAULT of the latest district(), book() or sentence()");
        OboeDistrict x = town();
        String[] texts = {"B", "mark m 0 0;", "tram t;tram t;", "tram a;tram b;tram c;tram d;"};
        for (int i = 0; i < 4; i++) {
            Calls.district(x, texts[i]);
            due("fault of " + texts[i], x.fault(), i + 1);
        }
        String[] books = {"B", "year 0;", "zoe leaves;", Calls.times(41, "year 1;")};
        for (int i = 0; i < 4; i++) {
            Calls.book(x, books[i], 0);
            due("fault of " + books[i], x.fault(), i + 1);
        }
        String[] sentences = {"B", "has zoe", Calls.times(20, "man or ") + "man"};
        int[] kinds = {1, 3, 4};
        for (int i = 0; i < 3; i++) {
            Calls.sentence(x, sentences[i]);
            due("fault of " + sentences[i], x.fault(), kinds[i]);
        }
        Calls.says(5, "(a book() of -1000 leaves it); 0 without one and ahead of any.");
        due("ahead of any", new OboeDistrict().fault(), 0);
        due("book(2)", x.book(2), -1000);
        due("fault behind it", x.fault(), 4);
        due("counts of nothing", x.counts(), NONE);
        due("fault behind counts", x.fault(), 4);
        Calls.book(x, "", 0);
        due("a book without one", x.fault(), 0);
        due("book(-1)", x.book(-1), -1000);
        due("none behind it", x.fault(), 0);
        Calls.sentence(x, "B");
        Calls.sentence(x, "man");
        due("a sentence without one", x.fault(), 0);
        Calls.sentence(x, "B");
        Calls.book(x, "ann comes;", 1);
        due("a book that is wrong has none", x.fault(), 0);
        Calls.sentence(x, "B");
        Calls.district(x, "");
        due("a district without one", x.fault(), 0);
    }

    private static void persons() {
        Calls.says(6, "0 STREET, 1 KIND (0 man, 1 woman), 2 MINDS, 3 away (1, 0), 4 his MARKS, as bits, 5 his TRAMS, as bits, 6 BURDENS of all his MARKS.");
        OboeDistrict x = Calls.town(Calls.TOWN + "has eve oboe;has eve sad;hates eve sad 20;rides eve red;rides eve blue;");
        int[] eve = {1, 1, 2, 1, 3, 3, 24};
        int[] cid = {1, 0, 0, 0, 0, 2, 0};
        for (int what = 0; what < 7; what++) {
            due("person(4, " + what + ")", x.person(4, what), eve[what]);
            due("person(2, " + what + ")", x.person(2, what), cid[what]);
        }
        Calls.says(6, "NoSuchElementException: no such ones.");
        for (int none : Calls.outside(PERSONS)) {
            for (int what = -1; what < 8; what++) {
                Calls.due("person(" + none + ", " + what + ") throws", Calls.personThrows(x, none, what), true);
            }
        }
        for (int none : Calls.outside(7)) {
            for (int p = 0; p < PERSONS; p++) {
                Calls.due("person(" + p + ", " + none + ") throws", Calls.personThrows(x, p, none), true);
            }
        }
    }

    private static void noSuchMarks() {
        OboeDistrict x = town();
        for (int none : Calls.outside(MARKS)) {
            Calls.says(7, "NONE: no such ones.");
            due("burden(0, " + none + ")", x.burden(0, none), NONE);
            Calls.says(9, "NONE: no such ones.");
            due("due(0, " + none + ")", x.due(0, none), NONE);
            Calls.says(10, "NONE: no such ones.");
            due("have(0, " + none + ")", x.have(0, none), NONE);
            Calls.says(11, "NONE: no such ones.");
            due("rest(0, " + none + ")", x.rest(0, none), NONE);
            Calls.says(12, "NONE: no such one.");
            due("off(" + none + ")", x.off(none), NONE);
        }
        for (int none : Calls.outside(PERSONS)) {
            Calls.says(7, "BURDEN of a MARK for a PERSON; NONE: no such ones.");
            due("burden(" + none + ", 0)", x.burden(none, 0), NONE);
            due("burden(" + none + ", -1)", x.burden(none, -1), NONE);
        }
        due("the last ones", x.burden(4, 1), 2);
        Calls.says(12, "OFF of a MARK; NONE: no such one.");
        due("the last", x.off(1), 3);
    }

    private static void noSuchSets() {
        OboeDistrict x = town();
        for (int none : Calls.outside(SETS)) {
            Calls.says(8, "PERSONS of a SET, as bits; NONE: no such one.");
            due("members(" + none + ")", x.members(none), NONE);
            Calls.says(9, "DUE of a SET and a MARK; NONE: no such ones.");
            due("due(" + none + ", 0)", x.due(none, 0), NONE);
            Calls.says(10, "How many of a SET have a MARK; NONE: no such ones.");
            due("have(" + none + ", 0)", x.have(none, 0), NONE);
            Calls.says(11, "NONE: no such ones.");
            due("rest(" + none + ", 0)", x.rest(none, 0), NONE);
        }
        due("members of the last", x.members(8), 4);
        due("due of the last", x.due(8, 1), 1);
        due("have of the last", x.have(8, 1), 0);
        due("rest of the last", x.rest(8, 1), 1);
    }

    private static void rests() {
        Calls.says(11, "What is left over: the size of a SET by A, its rest by B");
        OboeDistrict x = Calls.town("street a;mark m 39 40;mark n 40 40;mark o 0 1;person b a man 1;person c a man 1;person d a man 1 away;");
        due("2 by 39, its rest by 40", x.rest(0, 0), 38);
        due("1 by 39, its rest by 40", x.rest(3, 0), 39);
        due("none by 39", x.rest(2, 0), 0);
        due("2 by 40, its rest by 40", x.rest(0, 1), 0);
        due("2 by 0, its rest by 1", x.rest(0, 2), 0);
        x.come(2);
        due("3 by 39, its rest by 40", x.rest(0, 0), 37);
    }

    private static void nowOfOthers() {
        Calls.says(13, "NONE for another what.");
        OboeDistrict x = town();
        for (int none : Calls.outside(6)) {
            due("now(" + none + ")", x.now(none), NONE);
        }
        Calls.says(13, "1 who is away, as bits");
        due("eve", x.now(1), 16);
        Calls.says(13, "4 BURDENS of all who are here");
        due("all but eve", x.now(4), 17);
        x.leave(3);
        due("all but dot and eve", x.now(4), 8);
        Calls.says(13, "5 changes made by YEARS so far");
        OboeDistrict y = Calls.town(Calls.PAIR);
        y.give(0, 0);
        due("not by others", y.now(5), 0);
        y.years(1);
        due("q gets m, q loses n", y.now(5), 2);
    }

    private static void acts() {
        OboeDistrict x = town();
        long was = allThatIsSo(x);
        for (int none : Calls.outside(PERSONS)) {
            Calls.says(14, "A PERSON is GIVEN a MARK: 0, or why not; NONE: no such ones.");
            due("give(" + none + ", 0)", x.give(none, 0), NONE);
            Calls.says(15, "It is TAKEN: 0, or why not; NONE: no such ones.");
            due("take(" + none + ", 0)", x.take(none, 0), NONE);
        }
        for (int none : Calls.outside(MARKS)) {
            Calls.says(14, "NONE: no such ones.");
            due("give(0, " + none + ")", x.give(0, none), NONE);
            due("give(4, " + none + "), who is away", x.give(4, none), NONE);
            Calls.says(15, "NONE: no such ones.");
            due("take(0, " + none + ")", x.take(0, none), NONE);
            due("take(4, " + none + "), who is away", x.take(4, none), NONE);
        }
        Calls.says(14, "0, or why not");
        due("give, he is away", x.give(4, 1), 1);
        due("give, he has it", x.give(0, 1), 2);
        Calls.says(15, "0, or why not");
        due("take, he is away", x.take(4, 1), 1);
        due("take, he has it not", x.take(1, 1), 2);
        due("nothing changed", allThatIsSo(x), was);
        due("nothing to undo", x.undo(), NONE);
        Calls.says(14, "A PERSON is GIVEN a MARK: 0");
        due("give", x.give(3, 0), 0);
        due("marks", x.person(3, 4), 3);
        Calls.says(15, "It is TAKEN: 0");
        due("take", x.take(3, 1), 0);
        due("marks", x.person(3, 4), 1);
    }

    private static void movesAndLeaves() {
        OboeDistrict x = town();
        long was = allThatIsSo(x);
        for (int none : Calls.outside(PERSONS)) {
            Calls.says(16, "He MOVES to a STREET: 0, or why not; NONE: no such ones.");
            due("move(" + none + ", 0)", x.move(none, 0), NONE);
            Calls.says(17, "He LEAVES: 0, or why not; NONE: no such one.");
            due("leave(" + none + ")", x.leave(none), NONE);
            Calls.says(18, "He COMES: 0, or why not; NONE: no such one.");
            due("come(" + none + ")", x.come(none), NONE);
        }
        Calls.says(16, "0, or why not; NONE: no such ones.");
        for (int none : Calls.outside(STREETS)) {
            due("move(0, " + none + ")", x.move(0, none), NONE);
            due("move(4, " + none + "), who is away", x.move(4, none), NONE);
        }
        due("move, he is away", x.move(4, 0), 1);
        due("move, his street", x.move(0, 0), 2);
        Calls.says(17, "0, or why not");
        due("leave, she is away", x.leave(4), 1);
        Calls.says(18, "0, or why not");
        due("come, he is here", x.come(0), 1);
        due("nothing changed", allThatIsSo(x), was);
        due("nothing to undo", x.undo(), NONE);
        Calls.says(16, "He MOVES to a STREET: 0");
        due("move", x.move(0, 1), 0);
        due("the street", x.members(6), 13);
        Calls.says(17, "He LEAVES: 0");
        due("leave", x.leave(0), 0);
        due("all", x.members(0), 14);
        Calls.says(18, "He COMES: 0");
        due("come", x.come(4), 0);
        due("all", x.members(0), 30);
    }

    private static void years() {
        Calls.says(19, "n (1 to 60) YEARS go by: how many did; NONE: not as told.");
        OboeDistrict x = Calls.town(Calls.PAIR);
        for (int none : new int[] {0, 61, -1, -60, 200, 256 + 1, 65536 + 1, Integer.MIN_VALUE, Integer.MAX_VALUE}) {
            due("years(" + none + ")", x.years(none), NONE);
        }
        due("none went", x.now(0), 0);
        due("none is to undo", x.undo(), NONE);
        due("years(1)", x.years(1), 1);
        due("years(60)", x.years(60), 60);
        x.years(60);
        x.years(59);
        due("180", x.now(0), 180);
        due("years(21), 20 are left", x.years(21), 20);
        due("200", x.now(0), 200);
        due("years(60), none is left", x.years(60), 0);
        due("years(61) is not as told still", x.years(61), NONE);
        int wrongs = x.now(2);
        x.take(0, 0);
        x.years(1);
        due("nothing changes then", x.person(0, 4), 0);
        due("no wrong more", x.now(2), wrongs);
    }

    private static void undoKeepsEight() {
        Calls.says(20, "how many more can be (8 at most are kept); NONE: none is.");
        OboeDistrict x = town();
        due("none is", x.undo(), NONE);
        for (int i = 0; i < 8; i++) {
            x.years(1);
        }
        for (int i = 7; i >= 0; i--) {
            due("of eight", x.undo(), i);
            due("the year", x.now(0), i);
        }
        due("none is", x.undo(), NONE);
        for (int i = 0; i < 20; i++) {
            x.years(1);
        }
        for (int i = 7; i >= 0; i--) {
            due("of twenty, eight", x.undo(), i);
        }
        due("none is", x.undo(), NONE);
        due("twelve stay done", x.now(0), 12);
        x.leave(0);
        due("one again", x.undo(), 0);
        due("none is", x.undo(), NONE);
    }

    private static void undoOfWhat() {
        Calls.says(20, "The latest of give(), take(), move(), leave(), come() that was done, years() above 0, drawn() above 0, a BOOK that was lived is undone");
        OboeDistrict x = town();
        Calls.sentence(x, "has oboe");
        long[] was = new long[9];
        was[0] = allThatIsSo(x);
        for (int i = 0; i < 8; i++) {
            doOneOfEight(x, i);
            was[i + 1] = allThatIsSo(x);
            Calls.due("something changed by " + i, was[i + 1] != was[i], true);
        }
        for (int i = 7; i >= 0; i--) {
            due("undo", x.undo(), i);
            due("all is as it was ahead of " + i, allThatIsSo(x), was[i]);
        }
    }

    private static void doOneOfEight(OboeDistrict x, int which) {
        switch (which) {
            case 0:
                x.give(0, 0);
                break;
            case 1:
                x.take(1, 0);
                break;
            case 2:
                x.move(0, 1);
                break;
            case 3:
                x.leave(1);
                break;
            case 4:
                x.come(4);
                break;
            case 5:
                x.years(3);
                break;
            case 6:
                x.drawn(9, 4);
                break;
            default:
                Calls.book(x, "year 2;ann comes;ann comes;", 1);
                break;
        }
    }

    private static void undoOfNothingDone() {
        Calls.says(20, "that was done, years() above 0, drawn() above 0, a BOOK that was lived");
        OboeDistrict x = town();
        x.years(60);
        x.years(60);
        x.years(60);
        x.years(20);
        x.give(4, 0);
        x.take(4, 0);
        x.move(4, 0);
        x.leave(4);
        x.come(0);
        x.give(9, 9);
        due("years, none left", x.years(1), 0);
        due("years(0)", x.years(0), NONE);
        due("drawn, none left", x.drawn(1, 1), 0);
        due("drawn(0)", x.drawn(0, 1), NONE);
        due("a book judged", Calls.book(x, "eve comes;", 0), NONE);
        due("a book with a fault", Calls.book(x, "eve comes;B", 1), -12);
        due("a book of other lives", x.book(2), -1000);
        Calls.sentence(x, "man");
        x.image(0);
        due("of all these none is kept", x.undo(), 3);
        due("the year", x.now(0), 180);
        due("the sentence stays", x.said(-1), 2);
        OboeDistrict z = town();
        z.drawn(1, 1);
        z.years(1);
        due("one year", z.undo(), 1);
        due("one year drawn", z.undo(), 0);
        due("the year", z.now(0), 0);
        OboeDistrict y = town();
        due("a book lived in part", Calls.book(y, "eve comes;eve comes;eve leaves;", 1), 1);
        due("undo", y.undo(), 0);
        due("eve is away", y.now(1), 16);
    }

    private static void leasts() {
        OboeDistrict x = town();
        Calls.says(22, "NONE ahead of any.");
        due("who()", x.who(), NONE);
        Calls.says(23, "NONE ahead of any.");
        due("burdens()", x.burdens(), NONE);
        Calls.says(21, "LEAST of a MARK: OFF; NONE: no such one.");
        for (int none : Calls.outside(MARKS)) {
            due("least(" + none + ")", x.least(none), NONE);
        }
        Calls.says(22, "NONE ahead of any.");
        due("who() behind NONE", x.who(), NONE);
        Calls.says(23, "NONE ahead of any.");
        due("burdens() behind NONE", x.burdens(), NONE);
        Calls.says(21, "LEAST of a MARK: OFF");
        due("least(0)", x.least(0), 3);
        due("least(1), the last", x.least(1), 2);
        for (int none : Calls.outside(MARKS)) {
            x.least(none);
        }
        x.spared(1, 0, 9);
        x.changes(0);
        x.district();
        Calls.says(22, "Who, as bits, by the latest least() that was not NONE");
        due("who()", x.who(), 5);
        Calls.says(23, "Their BURDENS of it, by that");
        due("burdens()", x.burdens(), 3);
    }

    private static void families() {
        OboeDistrict x = Calls.town(Calls.PAIR);
        Calls.says(25, "NONE ahead of any.");
        due("familyOf()", x.familyOf(), NONE);
        Calls.says(24, "FAMILY of a MARK: how many SETS; NONE: all can be right, no such one.");
        due("all can be right", x.family(0), NONE);
        due("of none all can", x.family(1), NONE);
        for (int none : Calls.outside(MARKS)) {
            due("family(" + none + ")", x.family(none), NONE);
        }
        Calls.says(25, "Which, as bits, by the latest family() that was not NONE; NONE ahead of any.");
        due("familyOf() behind NONE", x.familyOf(), NONE);
        Calls.district(x, Calls.TOWN);
        due("family(1)", x.family(1), 3);
        due("familyOf()", x.familyOf(), 42);
        due("family(2)", x.family(2), NONE);
        due("familyOf() behind no such one", x.familyOf(), 42);
        for (int p = 0; p < 4; p++) {
            x.leave(p);
        }
        due("nobody is here: all can be right", x.family(1), NONE);
        due("familyOf() behind NONE", x.familyOf(), 42);
    }

    private static void changes() {
        OboeDistrict x = town();
        Calls.says(27, "NONE ahead of any.");
        due("changed()", x.changed(), NONE);
        Calls.says(26, "CHANGES of a MARK: how many; NONE: no such one.");
        for (int none : Calls.outside(MARKS)) {
            due("changes(" + none + ")", x.changes(none), NONE);
        }
        Calls.says(27, "Whose, as bits, by the latest changes() that was not NONE; NONE ahead of any.");
        due("changed() behind NONE", x.changed(), NONE);
        Calls.says(26, "CHANGES of a MARK: how many");
        due("changes(1)", x.changes(1), 2);
        for (int none : Calls.outside(MARKS)) {
            x.changes(none);
        }
        x.least(0);
        x.give(0, 0);
        Calls.says(27, "Whose, as bits, by the latest changes() that was not NONE");
        due("changed()", x.changed(), 12);
        x.take(0, 0);
        due("changes(0), none", x.changes(0), 0);
        due("changed(), nobody", x.changed(), 0);
    }

    private static void houses() {
        Calls.says(28, "HOUSE of a PERSON; NONE: he is away, no such one.");
        OboeDistrict x = town();
        long was = allThatIsSo(x);
        due("house(3)", x.house(3), 1);
        due("away", x.house(4), NONE);
        for (int none : Calls.outside(PERSONS)) {
            due("house(" + none + ")", x.house(none), NONE);
        }
        due("nothing changed", allThatIsSo(x), was);
        x.come(4);
        Calls.due("here", x.house(4) != NONE, true);
        // As it is now: b and c had better not live together, once both have it.
        OboeDistrict y = Calls.town("street a;street s;mark m 1 2;person b a man 1;person c a man 1;has b m;");
        due("his own", y.house(0), 0);
        y.give(1, 0);
        due("the other", y.house(0), 1);
        y.move(1, 1);
        due("his own again", y.house(0), 0);
        x.leave(3);
        due("away now", x.house(3), NONE);
        due("nobody", new OboeDistrict().house(0), NONE);
    }

    private static void boths() {
        Calls.says(29, "BOTH of two MARKS (unlike); NONE: no such ones.");
        OboeDistrict x = town();
        due("unlike", x.both(1, 0), 0);
        due("alike", x.both(0, 0), NONE);
        due("alike", x.both(1, 1), NONE);
        for (int none : Calls.outside(MARKS)) {
            due("both(0, " + none + ")", x.both(0, none), NONE);
            due("both(" + none + ", 0)", x.both(none, 0), NONE);
            due("both(" + none + ", " + none + ")", x.both(none, none), NONE);
        }
    }

    private static void spareds() {
        Calls.says(30, "SPARED by n (0 to 99): 1, 0; NONE: he has it not by LEAST (away, too), no such ones.");
        OboeDistrict x = town();
        due("by 0", x.spared(1, 0, 0), 0);
        due("by 8", x.spared(1, 0, 8), 0);
        due("by 9", x.spared(1, 0, 9), 1);
        due("by 99", x.spared(1, 0, 99), 1);
        for (int none : Calls.outside(100)) {
            due("by " + none, x.spared(1, 0, none), NONE);
        }
        for (int p : new int[] {0, 2, 3}) {
            due(p + " has it not by LEAST", x.spared(p, 0, 0), NONE);
        }
        due("away", x.spared(4, 0, 0), NONE);
        x.leave(1);
        due("away, though he had it", x.spared(1, 0, 9), NONE);
        for (int none : Calls.outside(PERSONS)) {
            due("spared(" + none + ", 0, 5)", x.spared(none, 0, 5), NONE);
        }
        for (int none : Calls.outside(MARKS)) {
            due("spared(0, " + none + ", 5)", x.spared(0, none, 5), NONE);
        }
        due("who() stays", x.who(), NONE);
    }

    private static void counts() {
        OboeDistrict x = town();
        Calls.says(32, "NONE ahead of any.");
        due("surely()", x.surely(), NONE);
        Calls.says(31, "COUNTS: how many sets; NONE: not as told.");
        due("no bytes", x.counts(), NONE);
        due("one byte", Calls.counts(x, 0), NONE);
        due("no such set", Calls.counts(x, 9, 0), NONE);
        due("nine", Calls.counts(x, 0, 2, 0, 2, 0, 2, 0, 2, 0, 2, 0, 2, 0, 2, 0, 2, 0, 2), NONE);
        due("a full tape", Calls.counts(x, new int[940]), NONE);
        due("none may have it so", Calls.counts(x, 0, 5), 0);
        Calls.says(32, "by the latest counts() above 0; NONE ahead of any.");
        due("surely() behind NONE and 0", x.surely(), NONE);
        Calls.says(31, "COUNTS: how many sets");
        due("eight", Calls.counts(x, 0, 2, 0, 2, 0, 2, 0, 2, 0, 2, 0, 2, 0, 2, 0, 2), 6);
        due("three of four", Calls.counts(x, 0, 3, 1, 2), 2);
        Calls.says(32, "PERSONS in each of these, as bits, by the latest counts() above 0");
        due("bob and cid", x.surely(), 6);
        Calls.counts(x, 0, 5);
        Calls.counts(x, 9, 0);
        x.counts();
        x.leave(1);
        due("bob and cid still", x.surely(), 6);
        due("nobody has it", Calls.counts(x, 0, 0), 1);
        due("nobody", x.surely(), 0);
    }

    private static void looks() {
        OboeDistrict x = town();
        Calls.says(33, "LOOK by that (as it was then); NONE ahead of any.");
        due("look()", x.look(), NONE);
        Calls.counts(x, 0, 5);
        x.counts();
        due("look() behind 0 and NONE", x.look(), NONE);
        due("one, a man", Calls.counts(x, 0, 1, 1, 1), 2);
        // bob or cid: even and odd numbers part them, all, men and women do not.
        due("even numbers", x.look(), 3);
        x.leave(1);
        x.leave(2);
        due("as it was then", x.look(), 3);
        Calls.counts(x, 0, 5);
        x.counts();
        due("look() behind 0 and NONE", x.look(), 3);
        x.district();
        due("in another district", x.look(), 3);
    }

    private static void cuts() {
        Calls.says(34, "CUT of a TRAM and a MARK; NONE: no such ones.");
        OboeDistrict x = town();
        due("the last ones", x.cut(1, 1), 0);
        for (int none : Calls.outside(TRAMS)) {
            due("cut(" + none + ", 0)", x.cut(none, 0), NONE);
        }
        for (int none : Calls.outside(MARKS)) {
            due("cut(0, " + none + ")", x.cut(0, none), NONE);
        }
        StringBuilder ten = new StringBuilder("street a;tram t;mark m 0 1;");
        for (char c = 'b'; c <= 'k'; c++) {
            ten.append("person p").append(c).append(" a man 1;rides p").append(c).append(" t;");
        }
        due("behind each of ten", Calls.town(ten.toString()).cut(0, 0), 2047);
    }

    private static void settles() {
        Calls.says(35, "The YEAR (from now on, 60 at most) in which no change is made, if nothing else is done; NONE: none such.");
        OboeDistrict x = Calls.town(Calls.PAIR);
        long was = allThatIsSo(x);
        due("in year 2", x.settles(), 2);
        due("nothing changed", allThatIsSo(x), was);
        due("nothing to undo", x.undo(), NONE);
        x.years(60);
        due("at once", x.settles(), 60);
        x.years(60);
        x.years(60);
        x.years(17);
        x.take(0, 0);
        x.take(1, 0);
        due("197: changes in 197 and 198", x.settles(), 199);
        x.undo();
        x.undo();
        x.years(1);
        x.take(0, 0);
        x.take(1, 0);
        due("198: changes in 198 and 199", x.settles(), NONE);
        x.years(2);
        due("200: none is left", x.settles(), NONE);
        due("an empty district settles at once", new OboeDistrict().settles(), 0);
    }

    private static void plates() {
        OboeDistrict x = town();
        Calls.says(37, "Byte i of the latest PLATE; NONE: none such.");
        for (int i = -1; i < 65; i++) {
            due("ahead of any, byteAt(" + i + ")", x.byteAt(i), NONE);
        }
        Calls.says(36, "PLATE of a PERSON: how many bytes; NONE: no such one.");
        due("plate(3)", x.plate(3), 11);
        for (int none : Calls.outside(PERSONS)) {
            due("plate(" + none + ")", x.plate(none), NONE);
        }
        Calls.says(37, "Byte i of the latest PLATE; NONE: none such.");
        String dot = "dot has sad";
        for (int i = 0; i < dot.length(); i++) {
            due("byteAt(" + i + ")", x.byteAt(i), dot.charAt(i));
        }
        for (int none : Calls.outside(dot.length())) {
            due("byteAt(" + none + ")", x.byteAt(none), NONE);
        }
        x.give(3, 0);
        due("as it was then", x.byteAt(8), 's');
        due("longer", x.plate(3), 20);
        due("its last byte", x.byteAt(19), 'd');
        due("shorter", x.plate(4), 11);
        due("behind it", x.byteAt(11), NONE);
    }

    private static void drawns() {
        Calls.says(38, "n (1 to 60) YEARS DRAWN by a seed: how many went by; NONE: not as told, no PERSONS.");
        OboeDistrict x = town();
        for (int none : new int[] {0, 61, -1, 257, 65537, Integer.MIN_VALUE, Integer.MAX_VALUE}) {
            due("drawn(" + none + ", 1)", x.drawn(none, 1), NONE);
        }
        due("none went", x.now(0), 0);
        due("drawn(1, least)", x.drawn(1, Integer.MIN_VALUE), 1);
        due("drawn(60, most)", x.drawn(60, Integer.MAX_VALUE), 60);
        x.drawn(60, 0);
        x.drawn(60, -1);
        due("drawn(20, 1), 19 are left", x.drawn(20, 1), 19);
        due("200", x.now(0), 200);
        long was = allThatIsSo(x);
        due("drawn(1, 1), none is left", x.drawn(1, 1), 0);
        due("nobody did anything then", allThatIsSo(x), was);
        for (OboeDistrict nobody : new OboeDistrict[] {new OboeDistrict(), Calls.town("street a;tram t;mark m 1 2;")}) {
            due("no persons", nobody.drawn(1, 1), NONE);
            due("none went", nobody.now(0), 0);
        }
        // All away, they are persons still.
        OboeDistrict away = Calls.town("street a;person b a man 1 away;");
        due("one who is away", away.drawn(60, 1), 60);
    }

    private static void odds() {
        Calls.says(39, "NONE: no such ones, no PERSONS.");
        OboeDistrict x = town();
        for (int none : Calls.outside(MARKS)) {
            due("odds(" + none + ", 1, 1)", x.odds(none, 1, 1), NONE);
        }
        for (int none : new int[] {0, 31, -1, 257, 65537, Integer.MIN_VALUE, Integer.MAX_VALUE}) {
            due("odds(0, " + none + ", 1)", x.odds(0, none, 1), NONE);
        }
        due("no persons", Calls.town("street a;mark m 1 2;").odds(0, 1, 1), NONE);
        Calls.says(39, "Of n (1 to 30) seeds x, x and 1, .. by how many OFF of a MARK is 0 behind 10 YEARS DRAWN from now on");
        long was = allThatIsSo(x);
        for (int first : new int[] {Integer.MAX_VALUE - 1, Integer.MIN_VALUE, -15, 0}) {
            for (int m = 0; m < MARKS; m++) {
                int right = 0;
                for (int n = 1; n <= 30; n++) {
                    OboeDistrict y = town();
                    y.drawn(10, first + n - 1);
                    right += y.off(m) == 0 ? 1 : 0;
                    if (n <= 2 || n == 30) {
                        due("odds(" + m + ", " + n + ", " + first + ")", x.odds(m, n, first), right);
                    }
                }
            }
        }
        due("nothing changed", allThatIsSo(x), was);
        due("nothing to undo", x.undo(), NONE);
    }

    private static void oddsNearTheEnd() {
        Calls.says(39, "OFF of a MARK is 0 behind 10 YEARS DRAWN from now on");
        OboeDistrict x = Calls.town(Calls.PAIR);
        for (int i = 0; i < 4; i++) {
            x.years(i == 3 ? 20 : 60);
        }
        due("all years are over, and it is 0", x.odds(0, 30, 1), 30);
        x.take(0, 0);
        due("all years are over, and it is not", x.odds(0, 30, 1), 0);
    }

    private static void booksOfOtherLives() {
        Calls.says(40, "-1000: another lives (the tape stays).");
        OboeDistrict x = town();
        Calls.tell(x, "eve comes;");
        for (int none : Calls.outside(2)) {
            due("book(" + none + ")", x.book(none), -1000);
            due("the tape", x.count(5), 10);
        }
        due("nobody came", x.now(1), 16);
        due("nothing is told", x.told(1), NONE);
        due("the tape is as it was", x.book(1), NONE);
        due("eve came", x.now(1), 0);
    }

    private static void booksJudgedAndLived() {
        Calls.says(40, "it is judged, all staying as it is (lives 0), or lived as far as it is not WRONG (1): the LINE that is WRONG; NONE: none");
        OboeDistrict x = town();
        long was = allThatIsSo(x);
        String text = "eve comes;ann leaves;year 3;bob moves elm;bob moves elm;cid leaves;year 1;";
        due("judged", Calls.book(x, text, 0), 4);
        due("all stays", allThatIsSo(x), was);
        due("nothing to undo", x.undo(), NONE);
        due("lived", Calls.book(x, text, 1), 4);
        due("eve came, ann left, cid is here", x.now(1), 1);
        due("three years", x.now(0), 3);
        due("bob moved", x.person(1, 0), 1);
        due("the first line is wrong", Calls.book(x, "ann leaves;eve leaves;", 1), 0);
        due("nothing was lived", x.now(1), 1);
        due("none is wrong", Calls.book(x, "eve leaves;", 1), NONE);
        due("no lines", Calls.book(x, "", 1), NONE);
        due("the 21st line is wrong", Calls.book(x, Calls.times(10, "dot leaves;dot comes;") + "ann leaves;", 0), 20);
        due("forty lines, the last is wrong", Calls.book(x, Calls.times(39, "year 1;") + "ann leaves;", 0), 39);
    }

    private static void booksWithFaults() {
        Calls.says(40, "-2 less the place of a FAULT");
        OboeDistrict x = town();
        long was = allThatIsSo(x);
        for (int lives = 0; lives < 2; lives++) {
            due("a fault at 0", Calls.book(x, "zoe comes;", lives), -2);
            due("a fault behind lines", Calls.book(x, "eve comes;year 1;B", lives), -19);
            due("a fault behind a line that would be wrong", Calls.book(x, "ann comes;B", lives), -12);
            due("a fault at 400", Calls.book(x, "eve comes;" + Calls.times(930, " "), lives), -402);
        }
        due("all stays", allThatIsSo(x), was);
        due("nothing to undo", x.undo(), NONE);
        due("nothing is told", x.told(0), NONE);
    }

    private static void whyOf(String text, int why, int lines) {
        OboeDistrict x = town();
        due(text, Calls.book(x, text, 1), why == 0 ? NONE : lines);
        due("why " + text, x.told(0), why);
        due("lines of " + text, x.told(1), lines);
    }

    private static void toldWhy() {
        Calls.says(41, "0 why it was WRONG (0: it was not; as for giving, 10 more as for taking, 20 for moving, 30 for leaving, 40 for coming; 51: fewer YEARS are left), 1 LINES that are not");
        whyOf("", 0, 0);
        whyOf("cid gets oboe;", 0, 1);
        whyOf("eve gets oboe;", 1, 0);
        whyOf("bob gets oboe;", 2, 0);
        whyOf("eve loses oboe;", 11, 0);
        whyOf("cid loses oboe;", 12, 0);
        whyOf("eve moves elm;", 21, 0);
        whyOf("cid moves elm;", 22, 0);
        whyOf("eve leaves;", 31, 0);
        whyOf("cid comes;", 41, 0);
        whyOf("cid leaves;cid gets oboe;cid comes;", 1, 1);
        whyOf("year 60;year 60;year 60;year 20;", 0, 4);
        whyOf("year 60;year 60;year 60;year 21;", 51, 3);
        whyOf("year 60;year 60;year 60;year 20;cid leaves;year 1;", 51, 5);
        whyOf("year 60;year 60;year 60;year 19;year 1;", 0, 5);
    }

    private static void toldThen() {
        OboeDistrict x = town();
        Calls.says(41, "NONE: another what, or ahead of any.");
        for (int what = -1; what < 5; what++) {
            due("told(" + what + ") ahead of any", x.told(what), NONE);
        }
        Calls.book(x, "B", 1);
        x.book(7);
        due("told(0) behind a fault and -1000", x.told(0), NONE);
        Calls.says(41, "2 the YEAR then, 3 OFF of all MARKS then");
        Calls.book(x, "year 5;ann leaves;ann leaves;year 1;", 0);
        due("the year then", x.told(2), 5);
        int off = x.told(3);
        Calls.says(41, "Of the latest book() that had no FAULT (and was not -1000)");
        Calls.book(x, "B", 1);
        x.book(7);
        int[] told = {31, 2, 5, off};
        for (int what = 0; what < 4; what++) {
            due("told(" + what + ") stays", x.told(what), told[what]);
        }
        for (int none : Calls.outside(4)) {
            Calls.says(41, "NONE: another what");
            due("told(" + none + ")", x.told(none), NONE);
        }
        Calls.says(41, "3 OFF of all MARKS then");
        Calls.book(x, "year 5;ann leaves;ann leaves;year 1;", 1);
        due("off then", x.now(3), off);
        x.years(9);
        x.come(0);
        due("off then, not now", x.told(3), off);
        due("the year then, not now", x.told(2), 5);
        // A year that is not lived for lack of years leaves all as it was.
        OboeDistrict y = Calls.town(Calls.PAIR);
        Calls.book(y, "year 60;year 60;year 60;p loses m;year 60;", 1);
        due("the year then", y.told(2), 180);
        due("off then", y.told(3), 4);
    }

    private static void sentences() {
        Calls.says(42, "how many ONES (each not, bracket and other one)");
        OboeDistrict x = town();
        due("one", Calls.sentence(x, "man"), 1);
        due("not is one", Calls.sentence(x, "not man"), 2);
        due("a bracket is one", Calls.sentence(x, "(man)"), 2);
        due("not, bracket, three more", Calls.sentence(x, "not(man or has sad and minds>3)"), 5);
        due("twenty", Calls.sentence(x, Calls.times(19, "man and ") + "man"), 20);
        Calls.says(42, "-1 less the place of a FAULT: it stays.");
        Calls.sentence(x, "woman and not away");
        due("an empty one", x.sentence(), -1);
        due("a fault at 0", Calls.sentence(x, "B"), -1);
        due("a fault behind ones", Calls.sentence(x, "man or has zoe"), -12);
        due("a fault at 200", Calls.sentence(x, "man" + Calls.times(198, " ")), -201);
        due("it stays: ann and dot", x.said(-1), 2);
        due("dot", x.said(1), 3);
        OboeDistrict y = town();
        due("a fault", Calls.sentence(y, "B"), -1);
        due("there is none", y.said(-1), NONE);
    }

    private static void saids() {
        Calls.says(43, "PERSONS of whom it may be said: how many (k NONE), or the k-th. NONE: there is no SENTENCE, none such.");
        OboeDistrict x = town();
        for (int k = -2; k < 3; k++) {
            due("no sentence, said(" + k + ")", x.said(k), NONE);
        }
        Calls.sentence(x, "woman");
        int[] due = {NONE, 3, 0, 3, 4, NONE};
        for (int k = -2; k < 4; k++) {
            due("said(" + k + ")", x.said(k), due[k + 2]);
        }
        for (int none : Calls.outside(3)) {
            due("said(" + none + ")", x.said(none), none == NONE ? 3 : NONE);
        }
        Calls.sentence(x, "number > 9");
        due("of none", x.said(-1), 0);
        due("none such", x.said(0), NONE);
        Calls.sentence(x, "not number > 9");
        due("of all", x.said(-1), 5);
        due("the last", x.said(4), 4);
        due("none such", x.said(5), NONE);
        OboeDistrict empty = new OboeDistrict();
        Calls.sentence(empty, "not away");
        due("of nobody", empty.said(-1), 0);
        due("none such", empty.said(0), NONE);
    }

    private static void images() {
        Calls.says(44, "DISTRICT, all that is so and the SENTENCE are kept in place k (0, 1): true; false: no such one.");
        OboeDistrict x = town();
        for (int none : Calls.outside(2)) {
            Calls.due("image(" + none + ")", x.image(none), false);
        }
        Calls.due("nothing is kept", x.restore(0) || x.restore(1), false);
        Calls.sentence(x, "woman");
        x.give(0, 0);
        x.drawn(3, 5);
        long first = allThatIsSo(x);
        Calls.due("image(0)", x.image(0), true);
        due("it leaves what can be undone", x.undo(), 1);
        x.move(2, 0);
        x.come(4);
        Calls.sentence(x, "man");
        long second = allThatIsSo(x);
        Calls.due("image(1)", x.image(1), true);
        x.leave(0);
        x.years(5);
        Calls.district(x, Calls.PAIR);
        x.years(5);
        Calls.due("restore(0)", x.restore(0), true);
        due("as kept in 0", allThatIsSo(x), first);
        x.years(4);
        Calls.due("restore(1)", x.restore(1), true);
        due("as kept in 1", allThatIsSo(x), second);
        x.years(4);
        Calls.due("restore(0) once more", x.restore(0), true);
        due("as kept in 0 still", allThatIsSo(x), first);
        Calls.district(x, Calls.PAIR);
        long third = allThatIsSo(x);
        Calls.due("image(0) of another", x.image(0), true);
        x.years(1);
        x.restore(0);
        due("as kept in 0 last", allThatIsSo(x), third);
        due("no sentence was kept", x.said(-1), NONE);
    }

    private static void restores() {
        Calls.says(45, "false: no such one, or nothing is kept there.");
        OboeDistrict x = town();
        Calls.due("nothing is kept", x.restore(0), false);
        x.give(0, 0);
        x.image(1);
        x.give(3, 0);
        Calls.due("nothing is kept in 0", x.restore(0), false);
        for (int none : Calls.outside(2)) {
            Calls.due("restore(" + none + ")", x.restore(none), false);
        }
        due("marks stay", x.person(3, 4), 3);
        due("what can be undone stays", x.undo(), 1);
        Calls.says(45, "(the tape, and what other calls told last, stays; nothing can be undone): true");
        x.least(1);
        x.family(1);
        x.changes(1);
        Calls.counts(x, 0, 4);
        x.plate(0);
        Calls.book(x, "year 3;", 0);
        Calls.sentence(x, "B");
        Calls.tell(x, "eve comes;");
        x.give(3, 0);
        Calls.due("restore(1)", x.restore(1), true);
        due("nothing can be undone", x.undo(), NONE);
        due("marks are as kept", x.person(3, 4), 2);
        due("who()", x.who(), 5);
        due("burdens()", x.burdens(), 3);
        due("familyOf()", x.familyOf(), 42);
        due("changed()", x.changed(), 12);
        due("surely()", x.surely(), 15);
        due("look()", x.look(), 0);
        due("byteAt(0)", x.byteAt(0), 'a');
        due("told(2)", x.told(2), 3);
        due("fault()", x.fault(), 1);
        due("the tape", x.count(5), 10);
        due("it is a book still", x.book(0), NONE);
    }

    private static void countsOfOthers() {
        Calls.says(46, "0 STREETS, 1 TRAMS, 2 PERSONS, 3 MARKS, 4 SETS, 5 bytes of the tape. NONE for another what.");
        OboeDistrict x = Calls.town("street a;street b;street c;tram t;tram u;mark m 1 2;person p a man 1 away;person q a man 1;");
        x.feed(0, 0, 0, 0, 0);
        int[] counts = {3, 2, 2, 1, 10, 20};
        for (int what = 0; what < 6; what++) {
            due("count(" + what + ")", x.count(what), counts[what]);
        }
        for (int none : Calls.outside(6)) {
            due("count(" + none + ")", x.count(none), NONE);
        }
        x.leave(1);
        due("persons who are away are counted", x.count(2), 2);
    }
}
