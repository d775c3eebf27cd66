/** Each promise by its number: ordinary inputs, the edges that the document names, wrong inputs. Texts' faults: TextFaultsTest. */
public final class PromiseTest {
    private static final int NONE = OboeDistrict.NONE;
    private static final int[] NO_NUMBERS = {-1, Integer.MIN_VALUE, Integer.MAX_VALUE};

    public static void main(String[] args) {
        promise1();
        promise2();
        promise3();
        promise4();
        promise6();
        promises7to12();
        halves();
        promise13();
        promises14and15();
        promise16();
        promises17and18();
        promise19();
        yearsByFirstPerson();
        promise20();
        promises21to23();
        promises24and25();
        promises26and27();
        promise28();
        promise29();
        promise30();
        promises31to33();
        promise34();
        promise35();
        promises36and37();
        promise38();
        promise39();
        promises40and41();
        promise42and43();
        promises44and45();
        promise46();
        emptyDistrict();
        fullDistrict();
        Calls.finish("PromiseTest");
    }

    private static void due(String what, long got, long want) {
        Calls.due(what, got, want);
    }

    private static void promise1() {
        OboeDistrict x = new OboeDistrict();
        int[] counts = {0, 0, 0, 0, 5, 0};
        for (int i = 0; i < 6; i++) {
            due("new: count(" + i + ")", x.count(i), counts[i]);
            due("new: now(" + i + ")", x.now(i), 0);
        }
        due("new: fault()", x.fault(), 0);
        due("new: who()", x.who(), NONE);
        due("new: burdens()", x.burdens(), NONE);
        due("new: familyOf()", x.familyOf(), NONE);
        due("new: changed()", x.changed(), NONE);
        due("new: surely()", x.surely(), NONE);
        due("new: look()", x.look(), NONE);
        due("new: byteAt(0)", x.byteAt(0), NONE);
        due("new: told(0)", x.told(0), NONE);
        due("new: said(-1)", x.said(-1), NONE);
        due("new: undo()", x.undo(), NONE);
        due("NONE", NONE, -1);
    }

    private static void promise2() {
        OboeDistrict x = new OboeDistrict();
        for (int i = 1; i <= 47; i++) {
            due("feed " + i, x.feed(0x20202020, 0x0A0A0A0A, 0x20202020, 0x20202020, 0x20202020), 20 * i);
        }
        due("feed 48", x.feed(0, 0, 0, 0, 0), NONE);
        due("tape when full", x.count(5), 940);
        x.end(921);
        due("feed onto 921", x.feed(0, 0, 0, 0, 0), NONE);
        due("tape of 921", x.count(5), 921);
        x.end(920);
        due("feed onto 920", x.feed(0, 0, 0, 0, 0), 940);
        x.end(880);
        due("blanks alone", x.district(), 0);
        // "street a" with ";tram b;    ": the highest byte of each number first.
        due("feed of a text", x.feed(0x73747265, 0x65742061, 0x3B747261, 0x6D20623B, 0x20202020), 20);
        due("district of it", x.district(), 2);
        x.feed(0, 0, 0, 0, 0xFFFFFFFF);
        due("a byte that is no token", x.district(), -1);
        x.feed(0x20202020, 0x20202020, 0x20202020, 0x20202020, 0x202020FF);
        due("the last byte", x.district(), -20);
    }

    private static void promise3() {
        OboeDistrict x = new OboeDistrict();
        Calls.due("end(0) of nothing", x.end(0), true);
        Calls.due("end(1) of nothing", x.end(1), false);
        Calls.tell(x, "street a;street b;");
        Calls.due("end(-1)", x.end(-1), false);
        Calls.due("end(least)", x.end(Integer.MIN_VALUE), false);
        Calls.due("end(19)", x.end(19), false);
        due("tape stays", x.count(5), 18);
        Calls.due("end(18)", x.end(18), true);
        Calls.due("end(9)", x.end(9), true);
        due("tape of 9", x.count(5), 9);
        Calls.due("end(10)", x.end(10), false);
        due("its first bytes", x.district(), 1);
        Calls.tell(x, "street a;");
        Calls.due("end(0)", x.end(0), true);
        due("tape of 0", x.count(5), 0);
    }

    private static void promise4() {
        OboeDistrict x = Calls.town("street a;");
        due("lines", Calls.district(x, Calls.TOWN), 18);
        due("tape empty", x.count(5), 0);
        due("streets", x.count(0), 2);
        due("no lines", x.district(), 0);
        due("empty district", x.count(0), 0);
        due("its sets", x.count(4), 5);
    }

    private static void promise6() {
        OboeDistrict x = Calls.town(Calls.TOWN + "hates bob sad 20;has bob sad;rides bob blue;has eve oboe;has eve sad;hates eve sad 3;");
        int[][] due = {
            {0, 1, 3, 0, 2, 1, 3},
            {0, 0, 5, 0, 3, 3, 30},
            {1, 0, 0, 0, 0, 2, 0},
            {1, 1, 9, 0, 2, 0, 9},
            {1, 1, 2, 1, 3, 0, 7}};
        for (int p = 0; p < 5; p++) {
            for (int what = 0; what < 7; what++) {
                due("person(" + p + ", " + what + ")", x.person(p, what), due[p][what]);
            }
        }
        for (int none : new int[] {-1, 5, 10, Integer.MIN_VALUE, Integer.MAX_VALUE}) {
            Calls.due("person(" + none + ", 0) throws", Calls.personThrows(x, none, 0), true);
        }
        for (int none : new int[] {-1, 7, Integer.MIN_VALUE, Integer.MAX_VALUE}) {
            Calls.due("person(0, " + none + ") throws", Calls.personThrows(x, 0, none), true);
        }
    }

    private static void promises7to12() {
        OboeDistrict x = Calls.town(Calls.TOWN);
        int[] oboe = {9, 5, 0, 9, 2};
        int[] sad = {3, 5, 0, 9, 2};
        for (int p = 0; p < 5; p++) {
            due("burden(" + p + ", 0)", x.burden(p, 0), oboe[p]);
            due("burden(" + p + ", 1)", x.burden(p, 1), sad[p]);
        }
        int[] members = {15, 6, 9, 5, 10, 3, 12, 3, 4};
        int[] dueOboe = {1, 1, 1, 1, 1, 1, 1, 1, 0};
        int[] dueSad = {2, 1, 1, 1, 1, 1, 1, 1, 1};
        int[] haveOboe = {1, 1, 0, 0, 1, 1, 0, 1, 0};
        int[] haveSad = {2, 0, 2, 1, 1, 1, 1, 1, 0};
        int[] restOboe = {0, 2, 2, 2, 2, 2, 2, 2, 1};
        int[] restSad = {0, 0, 0, 0, 0, 0, 0, 0, 1};
        for (int s = 0; s < 9; s++) {
            due("members(" + s + ")", x.members(s), members[s]);
            due("due(" + s + ", 0)", x.due(s, 0), dueOboe[s]);
            due("due(" + s + ", 1)", x.due(s, 1), dueSad[s]);
            due("have(" + s + ", 0)", x.have(s, 0), haveOboe[s]);
            due("have(" + s + ", 1)", x.have(s, 1), haveSad[s]);
            due("rest(" + s + ", 0)", x.rest(s, 0), restOboe[s]);
            due("rest(" + s + ", 1)", x.rest(s, 1), restSad[s]);
        }
        due("off(0)", x.off(0), 3);
        due("off(1)", x.off(1), 3);
        for (int none : new int[] {-1, 2, 3, Integer.MIN_VALUE, Integer.MAX_VALUE}) {
            due("burden of mark " + none, x.burden(0, none), NONE);
            due("due of mark " + none, x.due(0, none), NONE);
            due("have of mark " + none, x.have(0, none), NONE);
            due("rest of mark " + none, x.rest(0, none), NONE);
            due("off of mark " + none, x.off(none), NONE);
        }
        for (int none : new int[] {-1, 9, 12, 32, Integer.MIN_VALUE, Integer.MAX_VALUE}) {
            due("burden for " + none, x.burden(none, 0), NONE);
            due("members of " + none, x.members(none), NONE);
            due("due of set " + none, x.due(none, 0), NONE);
            due("have of set " + none, x.have(none, 0), NONE);
            due("rest of set " + none, x.rest(none, 0), NONE);
        }
        due("burden(5, 0)", x.burden(5, 0), NONE);
    }

    /** A half goes up, less than a half down. */
    private static void halves() {
        StringBuilder text = new StringBuilder("street a;mark m 1 2;mark n 3 7;mark o 39 40;");
        for (char c = 'b'; c <= 'h'; c++) {
            text.append("person p").append(c).append(" a man 1;");
        }
        OboeDistrict x = Calls.town(text.toString());
        due("7 by 1 of 2", x.due(0, 0), 4);
        due("4 by 1 of 2", x.due(3, 0), 2);
        due("3 by 1 of 2", x.due(4, 0), 2);
        due("7 by 3 of 7", x.due(0, 1), 3);
        due("4 by 3 of 7", x.due(3, 1), 2);
        due("3 by 3 of 7", x.due(4, 1), 1);
        due("7 by 39 of 40", x.due(0, 2), 7);
        due("rest of 7 by 39 of 40", x.rest(0, 2), 273 % 40);
        due("rest of 4 by 3 of 7", x.rest(3, 1), 5);
        due("none of none", x.due(2, 2), 0);
    }

    private static void promise13() {
        OboeDistrict x = Calls.town(Calls.TOWN + "has eve oboe;");
        int[] due = {0, 16, 0, 6, 17, 0};
        for (int what = 0; what < 6; what++) {
            due("now(" + what + ")", x.now(what), due[what]);
        }
        for (int none : new int[] {-1, 6, Integer.MIN_VALUE, Integer.MAX_VALUE}) {
            due("now(" + none + ")", x.now(none), NONE);
        }
        x.come(4);
        due("burdens with eve", x.now(4), 19);
        due("away with eve", x.now(1), 0);
        OboeDistrict y = Calls.town(Calls.PAIR);
        y.years(1);
        // p has m, q does not: wrong are all, men, odd and the street; n is right.
        due("wrongs of the first year", y.now(2), 4);
        due("changes of the first year", y.now(5), 2);
        y.years(1);
        due("wrongs of the second year", y.now(2), 4);
        due("changes of the second year", y.now(5), 3);
        due("year", y.now(0), 2);
        y.take(0, 0);
        due("changes by others are none", y.now(5), 3);
    }

    private static void promises14and15() {
        OboeDistrict x = Calls.town(Calls.TOWN);
        due("give", x.give(3, 0), 0);
        due("who has it", x.person(3, 4), 3);
        due("give again", x.give(3, 0), 2);
        due("give away", x.give(4, 0), 1);
        due("take away", x.take(4, 0), 1);
        due("take", x.take(3, 0), 0);
        due("take again", x.take(3, 0), 2);
        due("who has it not", x.person(3, 4), 2);
        due("eve has none", x.person(4, 4), 0);
        OboeDistrict y = Calls.town(Calls.TOWN + "has eve oboe;");
        due("give away who has it", y.give(4, 0), 1);
        due("take away who has it", y.take(4, 0), 1);
        for (int none : new int[] {-1, 5, Integer.MIN_VALUE, Integer.MAX_VALUE}) {
            due("give to " + none, x.give(none, 0), NONE);
            due("take from " + none, x.take(none, 0), NONE);
            due("give mark " + none, x.give(0, none), NONE);
            due("take mark " + none, x.take(0, none), NONE);
        }
        due("give mark 2", x.give(0, 2), NONE);
        due("take mark 2", x.take(0, 2), NONE);
        due("give away a mark that is none", x.give(4, 2), NONE);
    }

    private static void promise16() {
        OboeDistrict x = Calls.town(Calls.TOWN);
        due("move", x.move(0, 1), 0);
        due("street", x.person(0, 0), 1);
        due("street ash", x.members(5), 2);
        due("street elm", x.members(6), 13);
        due("move again", x.move(0, 1), 2);
        due("move away", x.move(4, 0), 1);
        due("move away to her own", x.move(4, 1), 1);
        for (int none : new int[] {-1, 2, 5, Integer.MIN_VALUE, Integer.MAX_VALUE}) {
            due("move to " + none, x.move(0, none), NONE);
        }
        for (int none : new int[] {-1, 5, Integer.MIN_VALUE, Integer.MAX_VALUE}) {
            due("move of " + none, x.move(none, 0), NONE);
        }
    }

    private static void promises17and18() {
        OboeDistrict x = Calls.town(Calls.TOWN);
        due("leave", x.leave(1), 0);
        due("away", x.now(1), 18);
        due("his marks stay his", x.person(1, 4), 1);
        due("but no set has him", x.have(0, 0), 0);
        due("his tram", x.members(7), 1);
        due("leave again", x.leave(1), 1);
        due("come", x.come(1), 0);
        due("have", x.have(0, 0), 1);
        due("come again", x.come(1), 1);
        due("eve comes", x.come(4), 0);
        due("all", x.members(0), 31);
        for (int none : new int[] {-1, 5, Integer.MIN_VALUE, Integer.MAX_VALUE}) {
            due("leave of " + none, x.leave(none), NONE);
            due("come of " + none, x.come(none), NONE);
        }
    }

    private static void promise19() {
        OboeDistrict x = Calls.town(Calls.PAIR);
        for (int none : new int[] {0, 61, -1, Integer.MIN_VALUE, Integer.MAX_VALUE}) {
            due("years(" + none + ")", x.years(none), NONE);
        }
        due("off ahead", x.off(0), 8);
        due("years(1)", x.years(1), 1);
        due("p first", x.person(0, 4), 1);
        due("q loses n", x.person(1, 4), 0);
        due("off behind", x.off(0), 4);
        due("years(60)", x.years(60), 60);
        due("years(60)", x.years(60), 60);
        due("years(60)", x.years(60), 60);
        due("years(60), 19 left", x.years(60), 19);
        due("year", x.now(0), 200);
        due("years(1), none left", x.years(1), 0);
        due("wrongs", x.now(2), 4);
        due("undo of the latest that went", x.undo(), 4);
        due("year", x.now(0), 181);
    }

    /** Of like changes the first person's, and none if OFF is not less by it. */
    private static void yearsByFirstPerson() {
        OboeDistrict x = Calls.town("street a;mark m 1 2;person b a man 1;person c a man 1;person d a man 1;person e a man 1;");
        // Due: all 2, men 2, even 1, odd 1, street 2: OFF 8; anyone makes it 4.
        due("off", x.off(0), 8);
        x.years(1);
        due("the first gets it", x.have(3, 0), 1);
        due("b has it", x.person(0, 4), 1);
        x.years(1);
        due("c has it, d would be too many of even numbers", x.person(1, 4), 1);
        due("off", x.off(0), 0);
        x.years(1);
        due("no more", x.now(5), 2);
        OboeDistrict y = Calls.town("street a;mark m 1 4;person b a man 1;person c a man 1;person d a man 1;person e a man 1;");
        // Due: 1 of all, men and street, of 2 even and 2 odd ones 1 each: OFF 5; the first makes it 1; more can't be less.
        due("off", y.off(0), 5);
        y.years(5);
        due("one change", y.now(5), 1);
        due("off", y.off(0), 1);
        due("wrongs", y.now(2), 5);
        OboeDistrict z = Calls.town("street a;mark m 0 1;person b a man 1 away;person c a man 1;has b m;has c m;");
        z.years(3);
        due("who is away keeps it", z.person(0, 4), 1);
        due("who is here loses it", z.person(1, 4), 0);
    }

    private static void promise20() {
        OboeDistrict x = Calls.town(Calls.TOWN);
        due("nothing yet", x.undo(), NONE);
        x.give(0, 0);
        x.give(0, 0);
        x.take(0, 1);
        x.move(0, 1);
        x.leave(1);
        x.come(4);
        x.years(3);
        x.years(0);
        x.drawn(2, 7);
        Calls.book(x, "eve leaves;year 1;", 1);
        Calls.book(x, "year 1;", 0);
        due("year", x.now(0), 6);
        due("the book", x.undo(), 7);
        due("year", x.now(0), 5);
        due("drawn", x.undo(), 6);
        due("year", x.now(0), 3);
        due("years", x.undo(), 5);
        due("year", x.now(0), 0);
        due("wrongs", x.now(2), 0);
        due("changes", x.now(5), 0);
        due("come", x.undo(), 4);
        due("away", x.now(1), 18);
        due("leave", x.undo(), 3);
        due("away", x.now(1), 16);
        due("move", x.undo(), 2);
        due("street", x.person(0, 0), 0);
        due("members", x.members(5), 3);
        due("take", x.undo(), 1);
        due("marks", x.person(0, 4), 3);
        due("give", x.undo(), 0);
        due("marks", x.person(0, 4), 2);
        due("no more", x.undo(), NONE);
        for (int i = 0; i < 9; i++) {
            due("year " + i, x.years(1), 1);
        }
        for (int i = 7; i >= 0; i--) {
            due("8 are kept", x.undo(), i);
        }
        due("not the ninth", x.undo(), NONE);
        due("year", x.now(0), 1);
        Calls.book(x, "year 2;bob comes;year 1;", 1);
        due("lived as far as it is not wrong", x.now(0), 3);
        due("and undone", x.undo(), 0);
        due("year", x.now(0), 1);
    }

    private static void promises21to23() {
        OboeDistrict x = Calls.town(Calls.TOWN);
        due("least(0)", x.least(0), 3);
        due("who()", x.who(), 2);
        due("burdens()", x.burdens(), 5);
        due("least(1)", x.least(1), 2);
        due("who()", x.who(), 5);
        due("burdens()", x.burdens(), 3);
        for (int none : new int[] {-1, 2, Integer.MIN_VALUE, Integer.MAX_VALUE}) {
            due("least(" + none + ")", x.least(none), NONE);
        }
        due("who() stays", x.who(), 5);
        due("burdens() stays", x.burdens(), 3);
        x.district();
        due("who() of another district", x.who(), 5);
        // Of one street, all men: b or d (even) and c or e (odd) must have it.
        String four = "street a;mark m 1 2;person b a man ";
        OboeDistrict y = Calls.town(four + "1;person c a man 1;person d a man 1;person e a man 1;");
        due("all right", y.least(0), 0);
        due("the least as bits", y.who(), 3);
        due("burdens", y.burdens(), 2);
        OboeDistrict z = Calls.town(four + "9;person c a man 1;person d a man 8;person e a man 0;hates d m 2;");
        z.least(0);
        due("the least burdens", z.who(), 9);
        due("their sum", z.burdens(), 9);
        OboeDistrict w = Calls.town(four + "9;person c a man 1;person d a man 8 away;person e a man 0;");
        due("without who is away", w.least(0), 0);
        due("who", w.who() & 4, 0);
    }

    private static void promises24and25() {
        OboeDistrict x = Calls.town(Calls.TOWN);
        due("family(0)", x.family(0), 3);
        due("all, men, women", x.familyOf(), 7);
        due("family(1)", x.family(1), 3);
        due("men, odd, street ash", x.familyOf(), 42);
        for (int none : new int[] {-1, 2, Integer.MIN_VALUE, Integer.MAX_VALUE}) {
            due("family(" + none + ")", x.family(none), NONE);
        }
        due("familyOf() stays", x.familyOf(), 42);
        Calls.district(x, Calls.PAIR);
        due("all can be right", x.family(0), NONE);
        due("familyOf() stays", x.familyOf(), 42);
        // Two of one street: 1 of 4 each: due 1 of all, men, street; 0 of even, 0 of odd.
        OboeDistrict y = Calls.town("street a;mark m 1 4;person b a man 1;person c a man 1;");
        due("family of two", y.family(0), 3);
        due("all, even, odd", y.familyOf(), 25);
    }

    private static void promises26and27() {
        OboeDistrict x = Calls.town(Calls.TOWN);
        due("changes(0)", x.changes(0), 0);
        due("changed()", x.changed(), 0);
        due("changes(1)", x.changes(1), 2);
        due("changed()", x.changed(), 12);
        for (int none : new int[] {-1, 2, Integer.MIN_VALUE, Integer.MAX_VALUE}) {
            due("changes(" + none + ")", x.changes(none), NONE);
        }
        due("changed() stays", x.changed(), 12);
        // LEAST has b and c (3); who has it has it still, and of like changes the least as bits counts, not of like havers.
        String four = "street a;mark m 1 2;person b a man 1;person c a man 1;person d a man 1;person e a man 1;has e m;";
        OboeDistrict y = Calls.town(four);
        due("one more", y.changes(0), 1);
        due("b", y.changed(), 1);
        OboeDistrict z = Calls.town(four + "has b m;has d m;");
        due("one fewer", z.changes(0), 1);
        due("b loses it", z.changed(), 1);
        OboeDistrict w = Calls.town("street a;mark m 0 1;person b a man 1 away;person c a man 1;has b m;has c m;");
        due("here alone", w.changes(0), 1);
        due("c", w.changed(), 2);
    }

    private static void promise28() {
        OboeDistrict x = Calls.town(Calls.TOWN);
        int[] due = {0, 0, 1, 1, NONE};
        for (int p = 0; p < 5; p++) {
            due("house(" + p + ")", x.house(p), due[p]);
        }
        for (int none : new int[] {-1, 5, Integer.MIN_VALUE, Integer.MAX_VALUE}) {
            due("house(" + none + ")", x.house(none), NONE);
        }
        due("nobody moved", x.members(5), 3);
        // One of two should have it. b and c have it and live together: each had better live elsewhere, first of like ones.
        OboeDistrict y = Calls.town("street a;street s;street t;street u;mark m 1 2;person b s man 1;person c s man 1;has b m;has c m;");
        due("b", y.house(0), 0);
        due("c", y.house(1), 0);
        // No marks: all like, so his own.
        OboeDistrict z = Calls.town("street a;street s;person b s man 1;");
        due("his own", z.house(0), 1);
    }

    private static void promise29() {
        OboeDistrict x = Calls.town(Calls.TOWN);
        due("both(0, 1)", x.both(0, 1), 0);
        due("both(1, 0)", x.both(1, 0), 0);
        due("both(0, 0)", x.both(0, 0), NONE);
        for (int none : new int[] {-1, 2, Integer.MIN_VALUE, Integer.MAX_VALUE}) {
            due("both(0, " + none + ")", x.both(0, none), NONE);
            due("both(" + none + ", 1)", x.both(none, 1), NONE);
        }
        String four = "street a;person b a man 1;person c a man 1;person d a man 1;person e a man 1;";
        OboeDistrict y = Calls.town(four + "mark m 1 1;mark n 1 2;mark o 3 4;");
        due("all and a half", y.both(0, 1), 2);
        due("all and three quarters", y.both(0, 2), 3);
        // Of 3 of 4: due 3 of all, men and street, 2 of even and 2 of odd ones: 3 have it (off 1) or all (off 3).
        due("a half and three quarters", y.both(1, 2), 1);
        due("three quarters and a half", y.both(2, 1), 1);
    }

    private static void promise30() {
        OboeDistrict x = Calls.town(Calls.TOWN);
        due("spared(1, 0, 9)", x.spared(1, 0, 9), 1);
        due("spared(1, 0, 8)", x.spared(1, 0, 8), 0);
        due("spared(1, 0, 0)", x.spared(1, 0, 0), 0);
        due("spared(1, 0, 99)", x.spared(1, 0, 99), 1);
        due("he has it not", x.spared(0, 0, 5), NONE);
        due("she is away", x.spared(4, 0, 5), NONE);
        for (int none : new int[] {-1, 100, Integer.MIN_VALUE, Integer.MAX_VALUE}) {
            due("spared by " + none, x.spared(1, 0, none), NONE);
            due("spared is " + none, x.spared(none, 0, 5), NONE);
            due("spared of " + none, x.spared(1, none, 5), NONE);
        }
        due("who() stays", x.who(), NONE);
        due("burden stays", x.burden(1, 0), 5);
        OboeDistrict y = Calls.town(Calls.PAIR);
        due("both must have it", y.spared(0, 0, 99), 0);
    }

    private static void promises31to33() {
        OboeDistrict x = Calls.town(Calls.TOWN);
        due("none told", x.counts(), NONE);
        due("surely() ahead", x.surely(), NONE);
        due("look() ahead", x.look(), NONE);
        due("one has it, a man", Calls.counts(x, 0, 1, 1, 1), 2);
        due("tape empty", x.count(5), 0);
        due("surely()", x.surely(), 0);
        due("look()", x.look(), 3);
        due("9 of 4", Calls.counts(x, 0, 9), 0);
        due("255 of 4", Calls.counts(x, 0, 255), 0);
        due("surely() stays", x.surely(), 0);
        due("look() stays", x.look(), 3);
        due("no such set", Calls.counts(x, 9, 0), NONE);
        due("no such set, behind one", Calls.counts(x, 0, 1, 200, 0), NONE);
        due("tape empty", x.count(5), 0);
        due("half a pair", Calls.counts(x, 0, 1, 2), NONE);
        due("eight", Calls.counts(x, 0, 3, 1, 1, 2, 2, 3, 2, 4, 1, 5, 1, 6, 2, 0, 3), 1);
        due("surely()", x.surely(), 13);
        due("look() of one", x.look(), 0);
        due("nine", Calls.counts(x, 0, 3, 1, 1, 2, 2, 3, 2, 4, 1, 5, 1, 6, 2, 0, 3, 0, 3), NONE);
        due("the last count", Calls.counts(x, 8, 1), 8);
        due("surely()", x.surely(), 4);
        // 8 groups of ann, bob, dot: all splits them 1 3 3 1; men 4 4; women 2 4 2; even 4 4; odd 2 4 2; ash 2 4 2; elm 4 4; red 2 4 2; blue 8.
        due("look() as all splits best", x.look(), 0);
        x.leave(0);
        due("look() as it was then", x.look(), 0);
        due("here alone", Calls.counts(x, 0, 3), 1);
        due("surely()", x.surely(), 14);
        x.district();
        due("surely() of another district", x.surely(), 14);
    }

    private static void promise34() {
        OboeDistrict x = Calls.town(Calls.TOWN);
        due("cut(0, 0)", x.cut(0, 0), 5);
        due("cut(1, 0)", x.cut(1, 0), 3);
        due("cut(0, 1)", x.cut(0, 1), 5);
        due("cut(1, 1): cid should have it", x.cut(1, 1), 0);
        for (int none : new int[] {-1, 2, Integer.MIN_VALUE, Integer.MAX_VALUE}) {
            due("cut(" + none + ", 0)", x.cut(none, 0), NONE);
            due("cut(0, " + none + ")", x.cut(0, none), NONE);
        }
        x.leave(0);
        // bob alone: 1 of 4 of one is none.
        due("cut without ann", x.cut(0, 0), 0);
        x.leave(1);
        due("cut of nobody", x.cut(0, 0), 1);
        OboeDistrict y = Calls.town("street a;tram t;mark m 1 2;person b a man 1;person c a man 1;person d a man 1;person e a man 1;"
                + "rides b t;rides c t;rides d t;rides e t;has b m;has d m;");
        // y n y n: 0 | 4, 2 | 2 and 4 | 0 are halves; 1 has 1, of 3 due is 2 and there is 1.
        due("cut in halves", y.cut(0, 0), 21);
    }

    private static void promise35() {
        OboeDistrict x = Calls.town(Calls.PAIR);
        due("settles()", x.settles(), 2);
        due("nothing went", x.now(0), 0);
        due("nothing changed", x.off(0), 8);
        x.years(1);
        due("settles()", x.settles(), 2);
        x.years(60);
        due("settles()", x.settles(), 61);
        x.years(60);
        x.years(60);
        x.years(18);
        due("year", x.now(0), 199);
        due("settles() in the last year", x.settles(), 199);
        x.take(0, 0);
        due("none is left in which it does", x.settles(), NONE);
        x.undo();
        x.years(1);
        due("all years are over", x.settles(), NONE);
    }

    private static void promises36and37() {
        OboeDistrict x = Calls.town(Calls.TOWN + "has dot oboe;");
        String[] due = {"ann has sad", "bob has oboe", "cid has none", "dot has oboe and sad", "eve is away"};
        for (int p = 0; p < 5; p++) {
            due("length of " + due[p], x.plate(p), due[p].length());
            due("plate " + due[p], Calls.plate(x, p).equals(due[p]) ? 1 : 0, 1);
        }
        for (int none : new int[] {-1, 5, Integer.MIN_VALUE, Integer.MAX_VALUE}) {
            due("plate(" + none + ")", x.plate(none), NONE);
        }
        due("byteAt(0) of the latest", x.byteAt(0), 'e');
        due("byteAt(10)", x.byteAt(10), 'y');
        for (int none : new int[] {-1, 11, 63, 64, Integer.MIN_VALUE, Integer.MAX_VALUE}) {
            due("byteAt(" + none + ")", x.byteAt(none), NONE);
        }
        x.district();
        due("byteAt(0) of another district", x.byteAt(0), 'e');
        OboeDistrict y = Calls.town("street a;mark zzzzzzz 1 2;mark ayayaya 1 2;mark bbbbbbb 1 2;person abcdefz a man 1;"
                + "has abcdefz bbbbbbb;has abcdefz zzzzzzz;has abcdefz ayayaya;");
        String longest = "abcdefz has zzzzzzz and ayayaya and bbbbbbb";
        due("the longest", y.plate(0), 43);
        due("plate " + longest, Calls.plate(y, 0).equals(longest) ? 1 : 0, 1);
    }

    /** Draws as the document says them, with long arithmetic. */
    private static long nextDraw(long x) {
        return (x * 1103515245L + 12345L) & 0xFFFFFFFFL;
    }

    private static void promise38() {
        OboeDistrict x = Calls.town("street a;person b a man 1;");
        for (int seed = -3; seed < 20; seed++) {
            boolean away = false;
            long s = seed & 0xFFFFFFFFL;
            OboeDistrict y = Calls.town("street a;person b a man 1;");
            for (int year = 0; year < 9; year++) {
                s = nextDraw(nextDraw(s));
                int deed = (int) ((s >>> 8) % 4);
                if (deed == 2) {
                    s = nextDraw(s);
                }
                away = deed == 0 || away && deed != 1;
            }
            due("drawn(9, " + seed + ")", y.drawn(9, seed), 9);
            due("year", y.now(0), 9);
            due("away by " + seed, y.now(1), away ? 1 : 0);
        }
        for (int none : new int[] {0, -1, 61, Integer.MIN_VALUE, Integer.MAX_VALUE}) {
            due("drawn(" + none + ", 1)", x.drawn(none, 1), NONE);
        }
        due("drawn(60, 1)", x.drawn(60, 1), 60);
        x.drawn(60, 1);
        x.drawn(60, 1);
        due("drawn(60, 1), 20 left", x.drawn(60, 1), 20);
        due("drawn(60, 1), none left", x.drawn(60, 1), 0);
        due("undo of the latest that went", x.undo(), 3);
        due("year", x.now(0), 180);
        OboeDistrict nobody = Calls.town("street a;tram b;mark m 1 2;");
        due("no persons", nobody.drawn(1, 1), NONE);
    }

    private static void promise39() {
        OboeDistrict x = Calls.town(Calls.TOWN);
        for (int m = 0; m < 2; m++) {
            int right = 0;
            for (int i = 0; i < 30; i++) {
                OboeDistrict y = Calls.town(Calls.TOWN);
                y.drawn(10, Integer.MAX_VALUE - 5 + i);
                right += y.off(m) == 0 ? 1 : 0;
            }
            due("odds(" + m + ", 30)", x.odds(m, 30, Integer.MAX_VALUE - 5), right);
        }
        due("nothing went", x.now(0), 0);
        due("odds(0, 1, 1)", x.odds(0, 1, 1) & ~1, 0);
        for (int none : new int[] {0, -1, 31, Integer.MIN_VALUE, Integer.MAX_VALUE}) {
            due("odds(0, " + none + ", 1)", x.odds(0, none, 1), NONE);
        }
        for (int none : new int[] {-1, 2, Integer.MIN_VALUE, Integer.MAX_VALUE}) {
            due("odds(" + none + ", 1, 1)", x.odds(none, 1, 1), NONE);
        }
        due("nothing can be undone", x.undo(), NONE);
        OboeDistrict nobody = Calls.town("street a;mark m 1 2;");
        due("no persons", nobody.odds(0, 1, 1), NONE);
        OboeDistrict one = Calls.town("street a;mark m 0 1;person b a man 1;");
        due("none should have it: a year mends it", one.odds(0, 30, 5), 30);
    }

    private static void wrongLine(String text, int line, int why) {
        for (int lives = 0; lives < 2; lives++) {
            OboeDistrict x = Calls.town(Calls.TOWN);
            due("book " + text, Calls.book(x, text, lives), line);
            due("why " + text, x.told(0), why);
            if (line != NONE) {
                due("lines that are not, " + text, x.told(1), line);
            }
            due("tape behind " + text, x.count(5), 0);
        }
    }

    private static void promises40and41() {
        wrongLine("ann gets oboe;", NONE, 0);
        wrongLine("eve gets oboe;", 0, 1);
        wrongLine("ann leaves;bob gets oboe;", 1, 2);
        wrongLine("eve loses oboe;", 0, 11);
        wrongLine("year 1;ann loses oboe;ann leaves;", 1, 12);
        wrongLine("eve moves ash;", 0, 21);
        wrongLine("ann moves elm;ann moves elm;", 1, 22);
        wrongLine("eve leaves;", 0, 31);
        wrongLine("eve comes;eve comes;", 1, 41);
        wrongLine("year 60;year 60;year 60;year 21;", 3, 51);
        wrongLine("year 60;year 60;year 60;year 20;", NONE, 0);
        wrongLine("year 60;year 60;year 60;year 20;ann gets oboe;year 1;", 5, 51);
        OboeDistrict x = Calls.town(Calls.TOWN);
        due("told ahead of any", x.told(0), NONE);
        due("judged", Calls.book(x, "cid gets oboe;year 2;eve comes;ann gets sad;year 5;", 0), 3);
        due("told(0)", x.told(0), 2);
        due("told(1)", x.told(1), 3);
        due("told(2)", x.told(2), 2);
        int offThen = x.told(3);
        due("all stays", x.now(0) + x.have(0, 0) + x.now(1), 17);
        due("nothing to undo", x.undo(), NONE);
        due("a fault", Calls.book(x, "zoe comes;", 1), -2);
        due("told(1) stays", x.told(1), 3);
        due("lived", Calls.book(x, "cid gets oboe;year 2;eve comes;ann gets sad;year 5;", 1), 3);
        due("told(3)", x.told(3), offThen);
        due("off then", x.now(3), offThen);
        due("year then", x.now(0), 2);
        due("eve came", x.now(1), 0);
        Calls.tell(x, "year 1;");
        for (int none : new int[] {2, -1, Integer.MIN_VALUE, Integer.MAX_VALUE}) {
            due("book(" + none + ")", x.book(none), -1000);
        }
        due("tape stays", x.count(5), 7);
        due("told(1) stays", x.told(1), 3);
        due("book of it", x.book(1), NONE);
        due("told(1)", x.told(1), 1);
        for (int none : new int[] {-1, 4, Integer.MIN_VALUE, Integer.MAX_VALUE}) {
            due("told(" + none + ")", x.told(none), NONE);
        }
        due("an empty book", x.book(0), NONE);
        due("its lines", x.told(1), 0);
        due("its year", x.told(2), 3);
    }

    private static void saysOf(String text, int... persons) {
        OboeDistrict x = Calls.town(Calls.TOWN + "has bob sad;has eve oboe;rides eve red;");
        Calls.due("sentence " + text, Calls.sentence(x, text) > 0, true);
        due("how many: " + text, x.said(NONE), persons.length);
        for (int k = 0; k < persons.length; k++) {
            due("said(" + k + "): " + text, x.said(k), persons[k]);
        }
        due("none such: " + text, x.said(persons.length), NONE);
    }

    private static void promise42and43() {
        saysOf("away", 4);
        saysOf("not away", 0, 1, 2, 3);
        saysOf("man", 1, 2);
        saysOf("woman", 0, 3, 4);
        saysOf("has oboe", 1, 4);
        saysOf("in elm", 2, 3, 4);
        saysOf("in ash", 0, 1);
        saysOf("rides red", 0, 1, 4);
        saysOf("minds < 3", 2, 4);
        saysOf("minds = 3", 0);
        saysOf("minds > 3", 1, 3);
        saysOf("marks = 0", 2);
        saysOf("marks > 1", 1);
        saysOf("marks < 1 or marks = 2", 1, 2);
        saysOf("number > 2", 3, 4);
        saysOf("number < 1", 0);
        saysOf("number = 999");
        saysOf("man or woman and away", 1, 2, 4);
        saysOf("away and woman or man", 1, 2, 4);
        saysOf("(man or woman) and away", 4);
        saysOf("not man and away", 4);
        saysOf("not (man and away)", 0, 1, 2, 3, 4);
        saysOf("not not man", 1, 2);
        saysOf("in ash and man or in elm and woman and not away", 1, 3);
        OboeDistrict x = Calls.town(Calls.TOWN);
        due("no sentence", x.said(-1), NONE);
        due("no sentence", x.said(0), NONE);
        due("ones", Calls.sentence(x, "not (has sad or away)"), 4);
        due("cid and bob", x.said(-1), 2);
        x.give(1, 1);
        due("as it is now", x.said(-1), 1);
        due("cid", x.said(0), 2);
        for (int none : new int[] {-2, 1, 10, Integer.MIN_VALUE, Integer.MAX_VALUE}) {
            due("said(" + none + ")", x.said(none), NONE);
        }
        x.undo();
        due("undone", x.said(-1), 2);
    }

    private static void promises44and45() {
        OboeDistrict x = Calls.town(Calls.TOWN);
        for (int none : new int[] {-1, 2, Integer.MIN_VALUE, Integer.MAX_VALUE}) {
            Calls.due("image(" + none + ")", x.image(none), false);
            Calls.due("restore(" + none + ")", x.restore(none), false);
        }
        Calls.due("nothing is kept", x.restore(0), false);
        Calls.sentence(x, "away");
        x.give(0, 0);
        x.years(2);
        int wrongs = x.now(2);
        int made = x.now(5);
        int off = x.now(3);
        Calls.due("image(0)", x.image(0), true);
        Calls.due("restore(1), nothing there", x.restore(1), false);
        due("undo behind an image", x.undo(), 1);
        x.leave(0);
        x.move(1, 1);
        Calls.sentence(x, "man");
        Calls.due("image(1)", x.image(1), true);
        Calls.district(x, Calls.PAIR);
        x.years(5);
        x.plate(1);
        x.least(0);
        Calls.book(x, "year 1;", 0);
        Calls.sentence(x, "minds<");
        Calls.tell(x, "abc");
        Calls.due("restore(0)", x.restore(0), true);
        due("persons", x.count(2), 5);
        due("sentence", x.said(-1), 1);
        due("year", x.now(0), 2);
        due("wrongs", x.now(2), wrongs);
        due("changes", x.now(5), made);
        due("off", x.now(3), off);
        due("away", x.now(1), 16);
        due("street", x.person(1, 0), 0);
        due("nothing can be undone", x.undo(), NONE);
        due("tape stays", x.count(5), 3);
        due("plate stays", x.byteAt(0), 'q');
        due("who stays", x.who(), 3);
        due("told stays", x.told(2), 6);
        due("fault stays", x.fault(), 1);
        x.give(2, 0);
        Calls.due("restore(1)", x.restore(1), true);
        due("sentence", x.said(-1), 2);
        due("away", x.now(1), 17);
        due("street", x.members(6), 14);
        due("nothing can be undone", x.undo(), NONE);
        x.years(7);
        Calls.due("restore(0) again", x.restore(0), true);
        due("the image is as it was", x.now(3), off);
        OboeDistrict y = Calls.town(Calls.TOWN);
        y.image(1);
        Calls.sentence(y, "man");
        y.restore(1);
        due("no sentence was kept", y.said(-1), NONE);
        OboeDistrict z = new OboeDistrict();
        Calls.due("image of an empty district", z.image(0), true);
        Calls.district(z, Calls.PAIR);
        Calls.due("restore of it", z.restore(0), true);
        due("its persons", z.count(2), 0);
    }

    private static void promise46() {
        OboeDistrict x = Calls.town(Calls.TOWN);
        int[] due = {2, 2, 5, 2, 9, 0};
        for (int what = 0; what < 6; what++) {
            due("count(" + what + ")", x.count(what), due[what]);
        }
        Calls.tell(x, "street a;");
        due("bytes of the tape", x.count(5), 9);
        for (int none : new int[] {-1, 6, Integer.MIN_VALUE, Integer.MAX_VALUE}) {
            due("count(" + none + ")", x.count(none), NONE);
        }
        x.leave(0);
        due("persons, away or not", x.count(2), 5);
    }

    private static void emptyDistrict() {
        OboeDistrict x = new OboeDistrict();
        for (int s = 0; s < 5; s++) {
            due("members(" + s + ")", x.members(s), 0);
        }
        due("members(5)", x.members(5), NONE);
        due("settles()", x.settles(), 0);
        due("years(60)", x.years(60), 60);
        due("undo()", x.undo(), 0);
        due("counts", Calls.counts(x, 4, 0), 1);
        due("surely", x.surely(), 0);
        due("look", x.look(), 0);
        due("sentence", Calls.sentence(x, "not away"), 2);
        due("said", x.said(-1), 0);
        for (int none : NO_NUMBERS) {
            due("least", x.least(none), NONE);
            due("house", x.house(none), NONE);
        }
        OboeDistrict y = Calls.town("street a;mark m 1 2;");
        due("least of nobody", y.least(0), 0);
        due("who of nobody", y.who(), 0);
        due("burdens of nobody", y.burdens(), 0);
        due("family of nobody", y.family(0), NONE);
        due("changes of nobody", y.changes(0), 0);
        due("changed of nobody", y.changed(), 0);
    }

    /** As many of each sort as there may be. */
    private static void fullDistrict() {
        StringBuilder text = new StringBuilder("street a;street b;street c;street d;tram t;tram u;tram v;mark m 1 1;mark n 1 2;mark o 1 10;");
        for (int p = 0; p < 10; p++) {
            text.append("person p").append((char) ('a' + p)).append(' ').append("abcd".charAt(p % 4)).append(" man ").append(2 * p).append(';');
            text.append("rides p").append((char) ('a' + p)).append(" t;");
        }
        OboeDistrict x = Calls.town(text.toString());
        due("sets", x.count(4), 12);
        due("all", x.members(0), 1023);
        due("even", x.members(3), 0x155);
        due("odd", x.members(4), 0x2AA);
        due("street a", x.members(5), 0x111);
        due("street d", x.members(8), 0x088);
        due("tram t", x.members(9), 1023);
        due("tram v", x.members(11), 0);
        due("no set", x.members(12), NONE);
        // All, men, tram t: 10 each; even, odd: 5 each; streets: 3, 3, 2, 2.
        due("off of all", x.off(0), 50);
        due("changes of all", x.changes(0), 10);
        due("changed of all", x.changed(), 1023);
        due("least of all", x.least(0), 0);
        due("who of all", x.who(), 1023);
        due("burdens of all", x.burdens(), 90);
        due("cut of none", x.cut(0, 0), 0);
        // Of 5 and more one should have it: on one side of each cut there are so many.
        due("cut of one in ten", x.cut(0, 2), 0);
        x.give(4, 2);
        // The fifth has it: right but for 5 and 5, where one of both should.
        due("cut of one in ten, the fifth", x.cut(0, 2), 2047 - (1 << 5));
        // No women: their count tells nothing, and any of 1024 groups may be.
        due("1024 groups", Calls.counts(x, 2, 0), 1024);
        due("surely", x.surely(), 0);
        due("look", x.look(), 0);
        due("all ten", Calls.counts(x, 0, 10), 1);
        due("surely", x.surely(), 1023);
        due("the last tram", Calls.counts(x, 11, 0, 0, 9), 10);
        due("no set", Calls.counts(x, 12, 0), NONE);
        for (int p = 0; p < 10; p++) {
            due("leave " + p, x.leave(p), 0);
        }
        due("all away", x.now(1), 1023);
        due("nobody is off", x.now(3), 0);
        due("8 are kept", x.undo(), 7);
    }
}
