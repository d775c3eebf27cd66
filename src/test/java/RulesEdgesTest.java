/** The edges of the document's parts 2 and 3 (sets, dues, years, searches, draws), sentence by sentence. */
public final class RulesEdgesTest {
    private static final int NONE = OboeDistrict.NONE;
    private static final String FOUR = "street a;person b a man 1;person c a man 1;person d a man 1;person e a man 1;";

    public static void main(String[] args) {
        setsOfThoseHere();
        setsNumbered();
        dueToTheNearest();
        offMoreOrFewer();
        burdens();
        whyNot();
        yearsFromZero();
        firstPersonOfLikeChanges();
        onlyIfLess();
        ifLessByOne();
        byAllSetsOfEach();
        wrongs();
        least();
        family();
        familiesOfSharedPersons();
        changes();
        house();
        both();
        spared();
        countsOfSets();
        lookAtTheFirst();
        cuts();
        plates();
        drawsOfAnInt();
        drawsOfActs();
        noDrawWithoutMarks();
        aFullDistrict();
        aFullDistrictByCounts();
        Calls.finish("RulesEdgesTest");
    }

    private static void due(String what, long got, long want) {
        Calls.due(what, got, want);
    }

    private static void setsOfThoseHere() {
        Calls.terms("8", "SETS are of PERSONS who are here (not away)");
        OboeDistrict x = Calls.town("street a;tram t;mark m 1 1;person p a man 1 away;rides p t;has p m;");
        for (int s = 0; s < 7; s++) {
            due("members(" + s + ") without p", x.members(s), 0);
            due("due(" + s + ") without p", x.due(s, 0), 0);
            due("have(" + s + ") without p", x.have(s, 0), 0);
            due("rest(" + s + ") without p", x.rest(s, 0), 0);
        }
        due("off without p", x.off(0), 0);
        x.come(0);
        int[] members = {1, 1, 0, 1, 0, 1, 1};
        for (int s = 0; s < 7; s++) {
            due("members(" + s + ") with p", x.members(s), members[s]);
            due("have(" + s + ") with p", x.have(s, 0), members[s]);
        }
    }

    private static void setsNumbered() {
        Calls.terms("8", "0 all, 1 men, 2 women, 3 those of even, 4 of odd numbers, 5 on each STREET's, then each TRAM's.");
        OboeDistrict none = Calls.town("mark m 1 2;");
        due("sets without streets and trams", none.count(4), 5);
        due("no set 5", none.members(5), NONE);
        OboeDistrict trams = Calls.town("tram t;tram u;");
        due("sets of two trams", trams.count(4), 7);
        due("set 6", trams.members(6), 0);
        due("no set 7", trams.members(7), NONE);
        OboeDistrict x = Calls.town("street a;street b;tram t;tram u;tram v;person p b man 1;person q b woman 1;person r a woman 1;"
                + "rides q v;rides r t;rides p t;");
        int[] members = {7, 1, 6, 5, 2, 4, 3, 5, 0, 2};
        for (int s = 0; s < 10; s++) {
            due("members(" + s + ")", x.members(s), members[s]);
        }
        due("no set 10", x.members(10), NONE);
    }

    private static String many(int n, String share) {
        StringBuilder text = new StringBuilder("street a;mark m ").append(share).append(';');
        for (int i = 0; i < n; i++) {
            text.append("person p").append((char) ('a' + i)).append(" a man 1;");
        }
        return text.toString();
    }

    private static void dueToTheNearest() {
        Calls.terms("9", "n by A of B to the nearest whole (a half: up)");
        int[] n = {0, 1, 1, 1, 1, 1, 2, 3, 5, 10, 10, 10, 10, 10, 10, 10, 7, 9};
        String[] share = {"40 40", "1 2", "1 3", "19 39", "20 39", "0 1", "1 4", "1 2", "3 10", "1 20", "1 21", "19 20", "20 21",
            "40 40", "0 40", "39 40", "1 14", "1 19"};
        int[] due = {0, 1, 0, 0, 1, 0, 1, 2, 2, 1, 0, 10, 10, 10, 0, 10, 1, 0};
        for (int i = 0; i < n.length; i++) {
            due(n[i] + " by " + share[i], Calls.town(many(n[i], share[i])).due(0, 0), due[i]);
        }
    }

    private static void offMoreOrFewer() {
        Calls.terms("12", "by how many all SETS have more or fewer of it than is DUE, in all");
        OboeDistrict fewer = Calls.town(FOUR + "mark m 1 1;");
        due("all too few: 4, 4, 0, 2, 2, 4", fewer.off(0), 16);
        OboeDistrict more = Calls.town(FOUR + "mark m 0 1;has b m;has c m;has d m;has e m;");
        due("all too many", more.off(0), 16);
        OboeDistrict both = Calls.town(FOUR + "mark m 1 2;has b m;has d m;");
        due("even one more, odd one fewer", both.off(0), 2);
    }

    private static void burdens() {
        Calls.terms("7", "BURDEN of a MARK for a PERSON: MINDS, and N more, if he hates it.");
        OboeDistrict x = Calls.town("street a;mark m 1 2;mark n 1 2;person p a man 20;person q a man 0;hates p n 20;hates q m 1;");
        due("20", x.burden(0, 0), 20);
        due("20 and 20", x.burden(0, 1), 40);
        due("0 and 1", x.burden(1, 0), 1);
        due("0", x.burden(1, 1), 0);
    }

    private static void whyNot() {
        Calls.terms("14 and 15", "To GIVE a MARK: why not, the least: 1 he is away; 2 he has it. To TAKE it: 1 he is away; 2 he has it not.");
        OboeDistrict x = Calls.town("street a;street b;mark m 1 2;person p a man 1 away;person q a man 1;has p m;has q m;");
        due("give to him who is away and has it", x.give(0, 0), 1);
        due("take from him who is away", x.take(0, 0), 1);
        due("give to him who has it", x.give(1, 0), 2);
        due("take", x.take(1, 0), 0);
        due("take from him who has it not", x.take(1, 0), 2);
        OboeDistrict y = Calls.town("street a;mark m 1 2;person p a man 1 away;");
        due("take from him who is away and has it not", y.take(0, 0), 1);
        Calls.terms("16, 17 and 18", "To MOVE: 1 he is away; 2 it is his STREET. To LEAVE: 1 he is away (his MARKS stay his). To COME: 1 he is here.");
        due("move of him who is away, to his street", x.move(0, 0), 1);
        due("move of him who is away", x.move(0, 1), 1);
        due("move to his street", x.move(1, 0), 2);
        due("leave of him who is away", x.leave(0), 1);
        due("come of him who is here", x.come(1), 1);
        due("give", x.give(1, 0), 0);
        due("leave", x.leave(1), 0);
        due("his marks stay his", x.person(1, 4), 1);
        due("his burdens too", x.person(1, 6), 1);
        due("come", x.come(1), 0);
        due("he has it still", x.have(0, 0), 1);
    }

    private static void yearsFromZero() {
        Calls.terms("19", "A YEAR (0 to 199; 200: all are over) goes");
        OboeDistrict x = Calls.town(FOUR);
        due("the first", x.now(0), 0);
        x.years(60);
        x.years(60);
        x.years(60);
        x.years(19);
        due("the last", x.now(0), 199);
        due("it goes", x.years(1), 1);
        due("all are over", x.now(0), 200);
        due("none goes", x.years(1), 0);
        due("none goes by draws", x.drawn(1, 1), 0);
        due("none goes in a book", Calls.book(x, "year 1;", 0), 0);
        due("so many", x.now(0), 200);
        due("a person may still leave", x.leave(0), 0);
    }

    private static void firstPersonOfLikeChanges() {
        Calls.terms("19", "(of like ones the first PERSON) is made");
        OboeDistrict x = Calls.town(FOUR + "mark m 1 1;mark n 0 1;has b n;has c n;has d n;has e n;");
        int[] has = {1, 3, 7, 15, 15};
        for (int year = 0; year < 5; year++) {
            x.years(1);
            for (int p = 0; p < 4; p++) {
                due("year " + year + ", who is " + p, x.person(p, 4), (has[year] >> p & 1) == 1 ? 1 : 2);
            }
            due("changes made", x.now(5), Math.min(8, 2 * year + 2));
        }
        // c is on a tram too: OFF is less by him than by b, though b is the first.
        OboeDistrict y = Calls.town(FOUR + "tram t;rides c t;mark m 1 1;");
        y.years(1);
        due("c, by whom OFF is the least", y.person(1, 4), 1);
        due("not b", y.person(0, 4), 0);
        // b is away: c is the first.
        OboeDistrict z = Calls.town(FOUR + "mark m 1 1;");
        z.leave(0);
        z.years(1);
        due("not b, who is away", z.person(0, 4), 0);
        due("c", z.person(1, 4), 1);
    }

    private static void onlyIfLess() {
        Calls.terms("19", "is made, if OFF is less by it than it was");
        // Due: 1 of all and of men, 0 of even, odd and both streets: OFF is 2 with none and with either.
        OboeDistrict x = Calls.town("street a;street s;mark m 1 4;person b a man 1;person c s man 1;person d a man 1 away;");
        due("off", x.off(0), 2);
        x.years(1);
        due("nobody got it", x.have(0, 0), 0);
        due("who is away did not either", x.person(2, 4), 0);
        due("no change", x.now(5), 0);
        due("two wrongs", x.now(2), 2);
        x.give(0, 0);
        due("off", x.off(0), 2);
        x.years(1);
        due("nobody lost it", x.have(0, 0), 1);
        due("no change", x.now(5), 0);
        due("two wrongs more", x.now(2), 4);
    }

    private static void ifLessByOne() {
        Calls.terms("19", "is made, if OFF is less by it than it was");
        // Due: 1 of all, men and the tram, 0 of all others. b makes three right and two wrong.
        OboeDistrict x = Calls.town("street a;street s;tram t;mark m 1 4;person b a man 1;person c s man 1;rides b t;rides c t;");
        due("off", x.off(0), 3);
        x.years(1);
        due("less by one", x.off(0), 2);
        due("b got it", x.person(0, 4), 1);
        due("one change", x.now(5), 1);
        due("two wrongs", x.now(2), 2);
        // Both have it: by whoever loses it three sets come right, two wrong ones too.
        x.give(1, 0);
        due("off", x.off(0), 7);
        x.years(1);
        due("b lost it", x.person(0, 4), 0);
        due("c has it", x.person(1, 4), 1);
        due("off", x.off(0), 2);
        // Due: 1 of each set but of women. Both have it: all, men and the tram come right by b, even and street a wrong.
        OboeDistrict y = Calls.town("street a;street s;tram t;mark m 1 2;person b a man 1;person c s man 1;rides b t;rides c t;has b m;has c m;");
        due("off", y.off(0), 3);
        y.years(1);
        due("less by one", y.off(0), 2);
        due("b lost it", y.person(0, 4), 0);
    }

    private static void byAllSetsOfEach() {
        Calls.terms("19", "that by which OFF of it is the least (of like ones the first PERSON) is made, if OFF is less by it than it was");
        // Due: 2 of all, 1 of each other set. By b four sets come right and three trams wrong, by d four come right.
        OboeDistrict x = Calls.town("street a;street s;street v;tram t;tram u;tram w;mark m 1 2;person b a woman 1;person c s man 1;person d v woman 1;"
                + "rides b t;rides b u;rides b w;rides c t;rides c u;rides c w;has c m;");
        due("off", x.off(0), 5);
        x.years(1);
        due("not b, by whom it is less by one", x.person(0, 4), 0);
        due("d, by whom it is less by four", x.person(2, 4), 1);
        due("off", x.off(0), 1);
        due("one change", x.now(5), 1);
        due("one wrong", x.now(2), 1);
        // Due: 1 of each set. By c women, odd ones and tram u come right; all, the street and tram t come wrong.
        OboeDistrict y = Calls.town("street a;tram t;tram u;mark m 1 2;person b a man 1;person c a woman 1;rides b t;rides c t;rides c u;has b m;");
        due("off", y.off(0), 3);
        y.years(1);
        due("as much as it was: no change", y.now(5), 0);
        due("c has it not", y.person(1, 4), 0);
        due("three wrongs", y.now(2), 3);
        y.give(1, 0);
        due("off", y.off(0), 3);
        y.years(1);
        due("c does not lose it: as much as it was", y.person(1, 4), 1);
        due("b does: three come right, men and even ones wrong", y.person(0, 4), 0);
        due("off", y.off(0), 2);
    }

    private static void wrongs() {
        Calls.terms("13 and 19", "Then each SET that is not as is DUE, MARK by MARK, is a WRONG more. It is the next YEAR.");
        // Of 4 all should have m: after the first year 3 are missing of all, men and the street, 1 of even, 2 of odd ones.
        OboeDistrict x = Calls.town(FOUR + "mark m 1 1;mark n 1 1;");
        x.years(1);
        due("5 sets of each mark, however much", x.now(2), 10);
        x.years(1);
        due("5 more of each", x.now(2), 20);
        x.years(1);
        due("even ones are right: 4 more of each", x.now(2), 28);
        x.years(1);
        due("all are right", x.now(2), 28);
        due("the next year", x.now(0), 4);
        x.take(0, 0);
        due("no year, no wrong", x.now(2), 28);
    }

    private static void least() {
        Calls.terms("21", "so that OFF is the least; of like ones that BURDENS in all are the least; then the least as bits");
        OboeDistrict x = Calls.town(FOUR + "mark m 1 2;has d m;has e m;");
        due("off", x.least(0), 0);
        due("b and c, all anew", x.who(), 3);
        // OFF comes ahead of BURDENS: nobody would mind least.
        OboeDistrict y = Calls.town("street a;mark m 1 1;person b a man 20;hates b m 20;");
        due("off", y.least(0), 0);
        due("he must", y.who(), 1);
        due("however much he minds", y.burdens(), 40);
        // BURDENS come ahead of bits.
        OboeDistrict z = Calls.town("street a;mark m 1 2;person b a man 3;person c a man 3;person d a man 2;person e a man 2;");
        z.least(0);
        due("d and e", z.who(), 12);
        due("burdens", z.burdens(), 4);
        x.leave(0);
        x.leave(1);
        x.least(0);
        due("of those here", x.who() & 3, 0);
        for (int p = 2; p < 4; p++) {
            x.leave(p);
        }
        due("nobody is here", x.least(0), 0);
        due("nobody", x.who(), 0);
        due("no burdens", x.burdens(), 0);
    }

    private static void family() {
        Calls.terms("24", "the fewest SETS that can't all be as is DUE together (whoever has it); of like ones the least as bits");
        // 1 of 4 of two: 1 of all, men, street and tram, 0 of even and of odd ones.
        String two = "street a;tram t;mark m 1 4;person b a man 1;person c a man 1;rides b t;rides c t;";
        OboeDistrict x = Calls.town(two);
        due("three", x.family(0), 3);
        due("all, even, odd", x.familyOf(), 25);
        Calls.district(x, two + "has b m;");
        due("whoever has it", x.family(0), 3);
        due("all, even, odd", x.familyOf(), 25);
        // Each alone on a and on c should have it, but of both, on the tram, one: streets and trams alone are a family, too.
        OboeDistrict w = Calls.town("street a;street b;street c;tram t;mark m 1 2;person d b man 1;person e b man 1;person f c man 1;person g a man 1;"
                + "rides f t;rides g t;");
        due("three", w.family(0), 3);
        due("streets a and c, the tram", w.familyOf(), 32 + 128 + 256);
        OboeDistrict y = Calls.town(FOUR + "mark m 1 1;");
        due("all can be right", y.family(0), NONE);
        OboeDistrict z = Calls.town(FOUR + "mark m 1 1;mark n 1 4;");
        due("family of the second", z.family(1), 3);
        z.leave(0);
        z.leave(1);
        z.leave(2);
        due("of one who is here all can be right", z.family(1), NONE);
    }

    private static void familiesOfSharedPersons() {
        Calls.terms("24", "the fewest SETS that can't all be as is DUE together (whoever has it); of like ones the least as bits");
        // 1 of both, but of neither the man nor the woman; the tram of b alone and the street can be right by c.
        family("street a;tram t;mark m 1 3;person b a man 1;person c a woman 1;rides b t;", 1 + 2 + 4);
        // 1 of both, but of the man 1 and of the woman 1: even and odd ones, too, but they are more as bits.
        family("street a;mark m 3 5;person b a woman 1;person c a man 1;", 1 + 2 + 4);
        // 5 of 7, but 3 of the 5 on a and 1 of the 2 on s; men 3 and women 2, even 3 and odd ones 2 are 5.
        family("street a;street s;mark m 2 3;person b s man 1;person c a woman 1;person d a man 1;person e s man 1;person f a woman 1;"
                + "person g a man 1;person h a woman 1;", 1 + 32 + 64);
        // c, alone on the tram, must have it, and 2 of the 3 men, but 2 of these four, who are all on a.
        family("street a;street s;tram t;mark m 1 2;person b s woman 1;person c a woman 1;person d a man 1;person e a man 1;person f a man 1;"
                + "rides c t;", 2 + 32 + 128);
        // 1 of all, and that an even one: so not e, but one of b and e and one of e and f.
        family("street a;tram t;tram u;tram v;mark m 1 3;person b a man 1;person c a man 1 away;person d a man 1;person e a man 1;person f a man 1;"
                + "rides b u;rides e u;rides e v;rides f v;", 1 + 8 + 128 + 256);
        // All but one have it, both men too: but on one tram b or c lacks it, and on the other d.
        family("street a;tram t;tram u;mark m 4 5;person b a woman 1;person c a woman 1;person d a woman 1;person e a man 1;person f a man 1;"
                + "rides b t;rides c t;rides e t;rides d u;rides e u;rides f u;", 1 + 2 + 64 + 128);
    }

    private static void family(String text, int sets) {
        OboeDistrict x = Calls.town(text);
        due("how many of " + text, x.family(0), Integer.bitCount(sets));
        due("which of " + text, x.familyOf(), sets);
    }

    private static void changes() {
        Calls.terms("26", "the fewest PERSONS here who must get or lose it so that OFF is as little as LEAST's; of like ones the least as bits");
        OboeDistrict x = Calls.town(FOUR + "mark m 1 2;mark n 1 2;mark o 1 2;has b n;has c n;has d n;has e n;has d o;has e o;");
        due("two get it", x.changes(0), 2);
        due("b and c", x.changed(), 3);
        due("two lose it", x.changes(1), 2);
        due("b and c", x.changed(), 3);
        due("none", x.changes(2), 0);
        due("nobody", x.changed(), 0);
        // By the changes OFF comes to LEAST's.
        OboeDistrict y = Calls.town("street a;mark m 1 2;person b a man 9;person c a man 1;person d a woman 1;person e a man 1;");
        int off = y.least(0);
        y.changes(0);
        for (int p = 0; p < 4; p++) {
            if ((y.changed() >> p & 1) == 1) {
                y.give(p, 0);
            }
        }
        due("off behind the changes", y.off(0), off);
        due("no more changes", y.changes(0), 0);
    }

    private static void house() {
        Calls.terms("28", "(of like ones his own, then the least)");
        // Without marks all streets are alike.
        OboeDistrict x = Calls.town("street a;street s;street t;street u;person b u man 1;person c t man 1;");
        due("his own, the last", x.house(0), 3);
        due("his own", x.house(1), 2);
        // Each alone should have it, of two one: b and c have it and had better not live together.
        OboeDistrict y = Calls.town("street a;street s;street t;street u;mark m 1 2;person b t man 1;person c t man 1;has b m;has c m;");
        due("the least of like ones", y.house(0), 0);
        due("the least of like ones", y.house(1), 0);
        OboeDistrict z = Calls.town("street a;mark m 1 2;person b a man 1;");
        due("one street", z.house(0), 0);
        // All marks together: m draws b elsewhere by 1, n and o hold him by 1 each.
        OboeDistrict w = Calls.town("street a;street s;mark m 1 2;mark n 1 2;mark o 1 2;person b s man 1;person c s man 1;has b m;has c m;has b n;has c o;");
        due("all marks together", w.house(0), 1);
    }

    private static void both() {
        Calls.terms("29", "the fewest PERSONS who have both, if each is had as OFF of it is the least (BURDENS left out)");
        OboeDistrict x = Calls.town("street a;mark m 1 2;mark n 1 2;person b a man 0;person c a man 0;person d a man 20;person e a man 20;has b m;has b n;");
        due("d and e could have the other, however they mind", x.both(0, 1), 0);
        due("the other way", x.both(1, 0), 0);
        OboeDistrict y = Calls.town(FOUR + "mark m 1 1;mark n 1 1;");
        due("all have both", y.both(0, 1), 4);
        y.leave(3);
        due("all who are here", y.both(0, 1), 3);
        OboeDistrict z = Calls.town("mark m 1 1;mark n 1 1;");
        due("nobody", z.both(0, 1), 0);
    }

    private static void spared() {
        Calls.terms("30", "SPARED: whether he who has a MARK by LEAST would not, if his BURDEN of it was n.");
        OboeDistrict x = Calls.town("street a;mark m 1 2;person b a man 5;person c a man 1;person d a man 5;person e a man 1;");
        // b and c by bits. At 5 b is as d, and the first as bits; at 6 he is spared.
        due("least", x.least(0), 0);
        due("b and c", x.who(), 3);
        due("b by 5", x.spared(0, 0, 5), 0);
        due("b by 6", x.spared(0, 0, 6), 1);
        due("b by 0", x.spared(0, 0, 0), 0);
        due("d has it not", x.spared(2, 0, 6), NONE);
        // d and c, if d minds less: d is spared by a tie, as b is less as bits.
        OboeDistrict y = Calls.town("street a;mark m 1 2;person b a man 5;person c a man 1;person d a man 4;person e a man 1;");
        y.least(0);
        due("c and d", y.who(), 6);
        due("d by 4", y.spared(2, 0, 4), 0);
        due("d by 5, a tie", y.spared(2, 0, 5), 1);
    }

    private static void countsOfSets() {
        Calls.terms("31", "(pairs of bytes: a SET, how many of it have something; 1 to 8 of them): sets of PERSONS here that may have it");
        OboeDistrict x = Calls.town(FOUR);
        due("none of them", x.counts(), NONE);
        due("one byte", Calls.counts(x, 0), NONE);
        due("one of them", Calls.counts(x, 0, 2), 6);
        due("three bytes", Calls.counts(x, 0, 2, 3), NONE);
        due("eight", Calls.counts(x, 0, 2, 1, 2, 2, 0, 3, 1, 4, 1, 5, 2, 0, 2, 3, 1), 4);
        due("fifteen bytes", Calls.counts(x, 0, 2, 1, 2, 2, 0, 3, 1, 4, 1, 5, 2, 0, 2, 3), NONE);
        due("seventeen bytes", Calls.counts(x, 0, 2, 1, 2, 2, 0, 3, 1, 4, 1, 5, 2, 0, 2, 3, 1, 0), NONE);
        due("nine", Calls.counts(x, 0, 2, 1, 2, 2, 0, 3, 1, 4, 1, 5, 2, 0, 2, 3, 1, 4, 1), NONE);
        due("the last set", Calls.counts(x, 5, 4), 1);
        due("one more is no set", Calls.counts(x, 6, 0), NONE);
        due("255 is no set", Calls.counts(x, 255, 0), NONE);
        due("128 is no set", Calls.counts(x, 128, 0), NONE);
        due("the eighth is no set", Calls.counts(x, 0, 2, 0, 2, 0, 2, 0, 2, 0, 2, 0, 2, 0, 2, 6, 0), NONE);
        due("more than it has", Calls.counts(x, 3, 3), 0);
        due("255 have it", Calls.counts(x, 3, 255), 0);
        due("256 and 2 are not 2", Calls.counts(x, 0, 130), 0);
        due("against one another", Calls.counts(x, 0, 2, 0, 3), 0);
        x.leave(0);
        due("here", Calls.counts(x, 0, 2), 3);
        due("nobody of even numbers but d", Calls.counts(x, 3, 1), 4);
    }

    private static void lookAtTheFirst() {
        Calls.terms("33", "the SET by whose count the greatest number of these that may still be left is the least (of like ones the first)");
        OboeDistrict x = Calls.town(FOUR);
        due("two have it", Calls.counts(x, 0, 2), 6);
        // All, men, women and the street tell nothing: 6; even, odd: 1, 4 and 1: 4.
        due("even", x.look(), 3);
        due("one of even, one of odd", Calls.counts(x, 3, 1, 4, 1), 4);
        due("all are alike", x.look(), 0);
        due("one set left", Calls.counts(x, 0, 4), 1);
        due("all are alike", x.look(), 0);
        OboeDistrict y = Calls.town("street a;street s;tram t;person b a man 1;person c a man 1;person d s man 1;person e s man 1;rides b t;");
        due("one of even, one of odd", Calls.counts(y, 3, 1, 4, 1), 4);
        // Streets: bc and de, be and cd: 1, 2, 1; the tram: 2 and 2.
        due("the first street", y.look(), 5);
        due("b, and one of odd", Calls.counts(y, 3, 1, 4, 1, 7, 1), 2);
        due("the first street, which parts bc and be", y.look(), 5);
        due("one of even, however many of odd", Calls.counts(y, 3, 1), 8);
        // All: 2, 4, 2, as odd; even: 8; both streets: 2, 4, 2; the tram: 4, 4.
        due("all", y.look(), 0);
        due("none of street s", Calls.counts(y, 6, 0), 4);
        // All: 1, 2, 1; men too; women: 4; even: 2, 2.
        due("all", y.look(), 0);
        due("b, and whoever", Calls.counts(y, 7, 1), 8);
        // All: b alone, with one, two, three: 1, 3, 3, 1.
        due("all", y.look(), 0);
    }

    private static void cuts() {
        Calls.terms("34", "in two behind the k-th (0 to all), so that in both parts as many have the MARK as would be DUE of a SET of so many");
        String riding = "tram t;rides b t;rides c t;rides d t;rides e t;";
        OboeDistrict x = Calls.town(FOUR + riding + "mark m 1 1;has b m;has c m;has d m;has e m;");
        due("everywhere, 0 and 4 too", x.cut(0, 0), 31);
        OboeDistrict none = Calls.town(FOUR + riding + "mark m 0 1;");
        due("everywhere", none.cut(0, 0), 31);
        OboeDistrict nowhere = Calls.town(FOUR + riding + "mark m 1 1;");
        due("nowhere", nowhere.cut(0, 0), 0);
        OboeDistrict empty = Calls.town(FOUR + "tram t;mark m 1 1;");
        due("of nobody, behind none", empty.cut(0, 0), 1);
        // b has it, d has it, c is away: of b, d, e two should have it, of one, one.
        OboeDistrict y = Calls.town(FOUR + riding + "mark m 1 2;has b m;has d m;has c m;");
        y.leave(1);
        // 0 | bde: 2 of 3; b | de: 1 of 1, 1 of 2; bd | e: 2 of 2, due 1; bde | 0.
        due("who are here", y.cut(0, 0), 11);
    }

    private static void plates() {
        Calls.terms("36", "his NAME, then ' is away', or ' has ' and the NAMES of his MARKS by number, ' and ' between them, or ' has none'");
        OboeDistrict x = Calls.town("street a;mark z 1 2;mark y 1 2;mark x 1 2;person p a man 1;person q a man 1 away;person r a man 1;person sevenab a man 1;person u a man 1;"
                + "has p x;has q z;has sevenab x;has sevenab z;has u x;has u y;has u z;");
        String[] due = {"p has x", "q is away", "r has none", "sevenab has z and x", "u has z and y and x"};
        for (int p = 0; p < due.length; p++) {
            Calls.due(due[p], Calls.plate(x, p).equals(due[p]), true);
            due("behind " + due[p], x.byteAt(due[p].length()), NONE);
        }
    }

    /** x * 1103515245 + 12345 without Java's own wrapping. */
    private static long next(long x) {
        return Math.floorMod(x * 1103515245L + 12345L, 1L << 32);
    }

    private static void drawsOfAnInt() {
        Calls.terms("38", "x becomes x * 1103515245 + 12345 (an int, wrapping), the draw is (x >>> 8) % n");
        String ten = many(10, "0 1");
        for (int seed : new int[] {0, 1, -1, 7, -7, 12345, Integer.MAX_VALUE, Integer.MIN_VALUE, 1 << 24, -(1 << 24)}) {
            long x = seed & 0xFFFFFFFFL;
            OboeDistrict y = Calls.town(ten);
            int away = 0;
            for (int year = 0; year < 20; year++) {
                x = next(x);
                int p = (int) ((x >> 8) % 10);
                x = next(x);
                int deed = (int) ((x >> 8) % 4);
                if (deed >= 2) {
                    x = next(x);
                }
                away = deed == 0 ? away | 1 << p : deed == 1 ? away & ~(1 << p) : away;
            }
            due("drawn(20, " + seed + ")", y.drawn(20, seed), 20);
            due("who is away by " + seed, y.now(1), away);
        }
    }

    private static void drawsOfActs() {
        Calls.terms("38", "0 he leaves, 1 he comes, 2 a draw of all STREETS: he moves there, 3 a draw of all MARKS");
        Calls.terms("38", "he gets it, or loses it, if he has it (each, if it can be); then the YEAR");
        // Nobody should have m or n: a year takes what was got, and changes nothing else.
        String text = "street a;street s;street t;mark m 0 1;mark n 0 1;person b a man 1;person c s man 1 away;";
        for (int seed = 0; seed < 40; seed++) {
            OboeDistrict y = Calls.town(text);
            long x = next(seed);
            int p = (int) ((x >> 8) % 2);
            x = next(x);
            int deed = (int) ((x >> 8) % 4);
            int street = (int) ((next(x) >> 8) % 3);
            due("drawn(1, " + seed + ")", y.drawn(1, seed), 1);
            int away = deed == 0 && p == 0 ? 3 : deed == 1 && p == 1 ? 0 : 2;
            due("away by " + seed, y.now(1), away);
            due("street by " + seed, y.person(0, 0), deed == 2 && p == 0 ? street : 0);
            due("street of who is away by " + seed, y.person(1, 0), 1);
            // He gets it, and the year takes it; who is away gets none.
            due("changes by " + seed, y.now(5), deed == 3 && p == 0 ? 1 : 0);
        }
        String had = "street a;mark m 1 1;mark n 1 1;person b a man 1;has b m;has b n;";
        for (int seed = 0; seed < 40; seed++) {
            OboeDistrict y = Calls.town(had);
            int deed = (int) ((next(next(seed)) >> 8) % 4);
            y.drawn(1, seed);
            // He loses it, and the year gives it; who left lost none.
            due("changes of who has it by " + seed, y.now(5), deed == 3 ? 1 : 0);
            due("his marks by " + seed, y.person(0, 4), 3);
        }
    }

    private static void noDrawWithoutMarks() {
        Calls.terms("38", "3 a draw of all MARKS (none: no draw)");
        for (int seed = 0; seed < 30; seed++) {
            OboeDistrict y = Calls.town("street a;street s;person b a man 1;person c a man 1;person d a man 1;");
            long x = seed;
            int away = 0;
            int[] street = new int[3];
            for (int year = 0; year < 12; year++) {
                x = next(x);
                int p = (int) ((x >> 8) % 3);
                x = next(x);
                int deed = (int) ((x >> 8) % 4);
                if (deed == 2) {
                    x = next(x);
                    street[p] = (away >> p & 1) == 1 ? street[p] : (int) ((x >> 8) % 2);
                }
                away = deed == 0 ? away | 1 << p : deed == 1 ? away & ~(1 << p) : away;
            }
            due("drawn(12, " + seed + ")", y.drawn(12, seed), 12);
            due("away by " + seed, y.now(1), away);
            for (int p = 0; p < 3; p++) {
                due("street of " + p + " by " + seed, y.person(p, 0), street[p]);
            }
        }
    }

    /** Ten persons k to t, twelve sets, three marks: men ride x, women y, the last of them z too. */
    private static OboeDistrict full() {
        StringBuilder text = new StringBuilder("street a;street b;street c;street d;tram x;tram y;tram z;mark e 1 1;mark f 0 1;mark g 1 4;");
        for (int p = 0; p < 10; p++) {
            char name = (char) ('k' + p);
            text.append("person ").append(name).append(' ').append("abcd".charAt(p % 4)).append(p < 5 ? " man " : " woman ").append(2 * p).append(';');
            text.append("rides ").append(name).append(p < 5 ? " x;" : " y;");
        }
        return Calls.town(text + "rides t z;has t f;");
    }

    private static void aFullDistrict() {
        Calls.terms("4", "4 STREETS, 3 TRAMS, 10 PERSONS, 3 MARKS at most");
        OboeDistrict x = full();
        int[] members = {1023, 31, 992, 341, 682, 273, 546, 68, 136, 31, 992, 512};
        for (int s = 0; s < 12; s++) {
            due("members(" + s + ")", x.members(s), members[s]);
            due("due(" + s + ", 0)", x.due(s, 0), Integer.bitCount(members[s]));
            due("have(" + s + ", 1)", x.have(s, 1), members[s] >> 9);
        }
        due("off of e: 10, 5, 5, 5, 5, 3, 3, 2, 2, 5, 5, 1", x.off(0), 51);
        due("off of f: all, women, odd, street b, trams y and z", x.off(1), 6);
        due("all must get e", x.changes(0), 10);
        due("all", x.changed(), 1023);
        due("one must lose f", x.changes(1), 1);
        due("the last", x.changed(), 512);
        due("least of e", x.least(0), 0);
        due("all", x.who(), 1023);
        due("0, 2, .. 18", x.burdens(), 90);
        due("the last can't be spared", x.spared(9, 0, 99), 0);
        due("all can have e", x.family(0), NONE);
        due("all who have e and g", x.both(0, 2), Integer.bitCount(leastOf(x, 2)));
        due("e then f", x.both(0, 1), 0);
        x.years(1);
        due("the last, who is in most sets, gets e first", x.person(9, 4), 1);
        for (int p = 0; p < 10; p++) {
            due("leave", x.leave(p), 0);
        }
        for (int s = 0; s < 12; s++) {
            due("nobody in " + s, x.members(s), 0);
        }
        due("nobody is off", x.now(3), 0);
        due("nobody must", x.changes(0), 0);
    }

    private static int leastOf(OboeDistrict x, int m) {
        x.least(m);
        return x.who();
    }

    private static void aFullDistrictByCounts() {
        Calls.terms("31 and 33", "sets of PERSONS here that may have it");
        OboeDistrict x = full();
        due("any of 1024", Calls.counts(x, 11, 0, 11, 0) + Calls.counts(x, 11, 1), 1024);
        due("the last has it in each", x.surely(), 512);
        due("all ten", Calls.counts(x, 0, 10), 1);
        due("all", x.surely(), 1023);
        due("five of ten", Calls.counts(x, 0, 5), 252);
        due("nobody surely", x.surely(), 0);
        // Of men (and women, tram x or y): 1, 25, 100, 100, 25, 1; even and odd alike; streets of three: 21, 105, 105, 21.
        due("men", x.look(), 1);
        due("one of ten", Calls.counts(x, 0, 1), 10);
        due("men: five or five", x.look(), 1);
        due("eleven can't", Calls.counts(x, 0, 11), 0);
        due("ten of men can't", Calls.counts(x, 1, 10), 0);
        due("the twelfth set", Calls.counts(x, 11, 1, 0, 1), 1);
        due("no thirteenth", Calls.counts(x, 12, 0), NONE);
        Calls.terms("31 and 33", "the SET by whose count the greatest number of these that may still be left is the least (of like ones the first)");
        due("all, but for one or none", Calls.counts(x, 1, 5, 3, 5, 4, 4, 11, 1), 2);
        // k to o, q, s, t have it, and p or r: the streets b and d tell which.
        due("street b, the first that tells", x.look(), 6);
    }
}
