import java.util.ArrayDeque;
import java.util.ArrayList;
import java.util.Arrays;
import java.util.HashMap;
import java.util.HashSet;
import java.util.List;
import java.util.Map;
import java.util.Set;
import java.util.TreeMap;

/**
 * The document once more, in the plainest and slowest way and with the Java library,
 * so that RandomRunsTest can hold the class against it.
 */
final class PlainDistrict {
    static final Set<String> WORDS = new HashSet<>(Arrays.asList(
            "street", "tram", "person", "man", "woman", "away", "mark", "rides", "has", "hates",
            "gets", "loses", "moves", "leaves", "comes", "year",
            "or", "and", "not", "in", "minds", "marks", "number"));

    static final class Fault extends RuntimeException {
        private static final long serialVersionUID = 1L;
        final int kind;
        final int place;

        Fault(int kind, int place) {
            super(null, null, false, false);
            this.kind = kind;
            this.place = place;
        }
    }

    static final class Someone {
        String name;
        int street;
        boolean woman;
        int minds;
        boolean away;
        Set<Integer> marks = new HashSet<>();
        Set<Integer> trams = new HashSet<>();
        Map<Integer, Integer> hates = new HashMap<>();

        Someone copy() {
            Someone s = new Someone();
            s.name = name;
            s.street = street;
            s.woman = woman;
            s.minds = minds;
            s.away = away;
            s.marks.addAll(marks);
            s.trams.addAll(trams);
            s.hates.putAll(hates);
            return s;
        }
    }

    static final class State {
        List<String> streets = new ArrayList<>();
        List<String> trams = new ArrayList<>();
        List<Someone> persons = new ArrayList<>();
        List<String> marks = new ArrayList<>();
        List<int[]> shares = new ArrayList<>();
        int year;
        int wrongs;
        int changes;

        State copy() {
            State s = new State();
            s.streets.addAll(streets);
            s.trams.addAll(trams);
            for (Someone p : persons) {
                s.persons.add(p.copy());
            }
            s.marks.addAll(marks);
            s.shares.addAll(shares);
            s.year = year;
            s.wrongs = wrongs;
            s.changes = changes;
            return s;
        }

        List<Set<Integer>> sets() {
            List<Set<Integer>> sets = new ArrayList<>();
            for (int i = 0; i < 5 + streets.size() + trams.size(); i++) {
                sets.add(new HashSet<>());
            }
            for (int i = 0; i < persons.size(); i++) {
                Someone p = persons.get(i);
                if (p.away) {
                    continue;
                }
                sets.get(0).add(i);
                sets.get(p.woman ? 2 : 1).add(i);
                sets.get(i % 2 == 0 ? 3 : 4).add(i);
                sets.get(5 + p.street).add(i);
                for (int t : p.trams) {
                    sets.get(5 + streets.size() + t).add(i);
                }
            }
            return sets;
        }

        int dueOf(int n, int m) {
            int a = shares.get(m)[0];
            int b = shares.get(m)[1];
            int floor = n * a / b;
            int rest = n * a % b;
            return 2 * rest >= b ? floor + 1 : floor;
        }

        Set<Integer> holders(int m) {
            Set<Integer> who = new HashSet<>();
            for (int i = 0; i < persons.size(); i++) {
                if (persons.get(i).marks.contains(m)) {
                    who.add(i);
                }
            }
            return who;
        }

        int off(int m, Set<Integer> who) {
            int off = 0;
            for (Set<Integer> set : sets()) {
                off += Math.abs(common(set, who) - dueOf(set.size(), m));
            }
            return off;
        }

        int off(int m) {
            return off(m, holders(m));
        }

        int offAll() {
            int off = 0;
            for (int m = 0; m < marks.size(); m++) {
                off += off(m);
            }
            return off;
        }

        int burden(int p, int m) {
            return persons.get(p).minds + persons.get(p).hates.getOrDefault(m, 0);
        }

        int act(String verb, int p, int what) {
            Someone s = persons.get(p);
            switch (verb) {
                case "gets":
                    if (s.away) return 1;
                    return s.marks.add(what) ? 0 : 2;
                case "loses":
                    if (s.away) return 1;
                    return s.marks.remove(what) ? 0 : 2;
                case "moves":
                    if (s.away) return 1;
                    if (s.street == what) return 2;
                    s.street = what;
                    return 0;
                case "leaves":
                    if (s.away) return 1;
                    s.away = true;
                    return 0;
                default:
                    if (!s.away) return 1;
                    s.away = false;
                    return 0;
            }
        }

        int goYear() {
            int made = 0;
            for (int m = 0; m < marks.size(); m++) {
                int was = off(m);
                int best = -1;
                int bestOff = was;
                for (int p = 0; p < persons.size(); p++) {
                    if (persons.get(p).away) continue;
                    flip(p, m);
                    int off = off(m);
                    flip(p, m);
                    if (off < bestOff) {
                        bestOff = off;
                        best = p;
                    }
                }
                if (best >= 0) {
                    flip(best, m);
                    made++;
                }
            }
            for (int m = 0; m < marks.size(); m++) {
                for (Set<Integer> set : sets()) {
                    if (common(set, holders(m)) != dueOf(set.size(), m)) wrongs++;
                }
            }
            changes += made;
            year++;
            return made;
        }

        void flip(int p, int m) {
            if (!persons.get(p).marks.remove(m)) {
                persons.get(p).marks.add(m);
            }
        }

        int goDrawn(int n, int seed) {
            int[] x = {seed};
            int gone = 0;
            while (gone < n && year < 200) {
                int p = draw(x, persons.size());
                int deed = draw(x, 4);
                if (deed == 0) act("leaves", p, 0);
                if (deed == 1) act("comes", p, 0);
                if (deed == 2) act("moves", p, draw(x, streets.size()));
                if (deed == 3 && !marks.isEmpty()) {
                    int m = draw(x, marks.size());
                    act(persons.get(p).marks.contains(m) ? "loses" : "gets", p, m);
                }
                goYear();
                gone++;
            }
            return gone;
        }

        List<Set<Integer>> groups() {
            List<Set<Integer>> all = new ArrayList<>();
            for (int x = 0; x < 1 << persons.size(); x++) {
                Set<Integer> group = new HashSet<>();
                boolean here = true;
                for (int p = 0; p < persons.size(); p++) {
                    if ((x >> p & 1) == 1) {
                        group.add(p);
                        here &= !persons.get(p).away;
                    }
                }
                if (here) all.add(group);
            }
            return all;
        }

        /** Their OFF, in the order of groups(). */
        int[] offs(int m, List<Set<Integer>> groups) {
            List<Set<Integer>> sets = sets();
            int[] offs = new int[groups.size()];
            for (int i = 0; i < offs.length; i++) {
                for (Set<Integer> set : sets) {
                    offs[i] += Math.abs(common(set, groups.get(i)) - dueOf(set.size(), m));
                }
            }
            return offs;
        }
    }

    static int draw(int[] x, int n) {
        x[0] = x[0] * 1103515245 + 12345;
        return (x[0] >>> 8) % n;
    }

    static int common(Set<Integer> a, Set<Integer> b) {
        int n = 0;
        for (int i : a) {
            if (b.contains(i)) n++;
        }
        return n;
    }

    static int bits(Set<Integer> s) {
        int bits = 0;
        for (int i : s) {
            bits |= 1 << i;
        }
        return bits;
    }

    // ---- texts ----

    static final class Token {
        char kind; // w word, a name, n number, s sign, e end, x none
        int place;
        String text = "";
    }

    static final class Tokens {
        final List<Token> all = new ArrayList<>();
        int at;

        Tokens(byte[] bytes, int most) {
            int i = 0;
            while (true) {
                while (i < bytes.length && (bytes[i] == 32 || bytes[i] == 10)) i++;
                Token t = new Token();
                all.add(t);
                t.place = i;
                if (bytes.length > most && i >= most) {
                    t.kind = 'x';
                    t.place = most;
                    return;
                }
                if (i == bytes.length) {
                    t.kind = 'e';
                    return;
                }
                int j = i;
                while (j < bytes.length && (Character.toString((char) (bytes[j] & 255)).matches("[a-z0-9]"))) j++;
                if (j == i) j++;
                t.text = new String(bytes, i, j - i, java.nio.charset.StandardCharsets.ISO_8859_1);
                t.kind = t.text.matches("[a-z]{1,7}") ? WORDS.contains(t.text) ? 'w' : 'a'
                        : t.text.matches("[0-9]{1,3}") ? 'n' : t.text.matches("[;<=>()]") ? 's' : 'x';
                i = j;
            }
        }

        Token peek() {
            return all.get(at);
        }

        boolean isNext(String text) {
            return (peek().kind == 'w' || peek().kind == 's') && peek().text.equals(text);
        }

        Fault fault(int kind) {
            return new Fault(kind, peek().place);
        }

        void need(String text) {
            if (!isNext(text)) throw fault(1);
            at++;
        }

        int number(int least, int most) {
            if (peek().kind != 'n') throw fault(1);
            int n = Integer.parseInt(peek().text);
            if (n < least || n > most) throw fault(2);
            at++;
            return n;
        }

        String newName(Map<String, String> sorts) {
            if (peek().kind != 'a') throw fault(1);
            if (sorts.containsKey(peek().text)) throw fault(3);
            return all.get(at++).text;
        }

        String name(Map<String, String> sorts, String sort) {
            if (peek().kind != 'a') throw fault(1);
            if (!sort.equals(sorts.get(peek().text))) throw fault(3);
            return all.get(at++).text;
        }
    }

    static Map<String, String> sortsOf(State s) {
        Map<String, String> sorts = new TreeMap<>();
        for (String n : s.streets) sorts.put(n, "street");
        for (String n : s.trams) sorts.put(n, "tram");
        for (Someone p : s.persons) sorts.put(p.name, "person");
        for (String n : s.marks) sorts.put(n, "mark");
        return sorts;
    }

    static int personOf(State s, String name) {
        for (int i = 0; i < s.persons.size(); i++) {
            if (s.persons.get(i).name.equals(name)) return i;
        }
        throw new IllegalStateException(name);
    }

    static int readDistrict(State s, Tokens t) {
        int lines = 0;
        while (t.peek().kind != 'e') {
            if (t.peek().kind != 'w') throw t.fault(1);
            String word = t.peek().text;
            switch (word) {
                case "street":
                    if (s.streets.size() == 4) throw t.fault(4);
                    t.at++;
                    s.streets.add(t.newName(sortsOf(s)));
                    break;
                case "tram":
                    if (s.trams.size() == 3) throw t.fault(4);
                    t.at++;
                    s.trams.add(t.newName(sortsOf(s)));
                    break;
                case "mark":
                    if (s.marks.size() == 3) throw t.fault(4);
                    t.at++;
                    s.marks.add(t.newName(sortsOf(s)));
                    int a = t.number(0, 40);
                    s.shares.add(new int[] {a, t.number(a == 0 ? 1 : a, 40)});
                    break;
                case "person":
                    if (s.persons.size() == 10) throw t.fault(4);
                    t.at++;
                    Someone p = new Someone();
                    p.name = t.newName(sortsOf(s));
                    p.street = s.streets.indexOf(t.name(sortsOf(s), "street"));
                    p.woman = t.isNext("woman");
                    if (!p.woman && !t.isNext("man")) throw t.fault(1);
                    t.at++;
                    p.minds = t.number(0, 20);
                    if (t.isNext("away")) {
                        p.away = true;
                        t.at++;
                    }
                    s.persons.add(p);
                    break;
                case "rides":
                case "has":
                case "hates":
                    t.at++;
                    readTie(s, t, word);
                    break;
                default:
                    throw t.fault(1);
            }
            t.need(";");
            lines++;
        }
        return lines;
    }

    static void readTie(State s, Tokens t, String word) {
        Someone p = s.persons.get(personOf(s, t.name(sortsOf(s), "person")));
        int place = t.peek().place;
        String other = t.name(sortsOf(s), word.equals("rides") ? "tram" : "mark");
        int n = word.equals("rides") ? s.trams.indexOf(other) : s.marks.indexOf(other);
        boolean again = word.equals("rides") ? !p.trams.add(n) : word.equals("has") ? !p.marks.add(n) : p.hates.containsKey(n);
        if (again) throw new Fault(3, place);
        if (word.equals("hates")) p.hates.put(n, t.number(1, 20));
    }

    static final class Line {
        String verb;
        int person;
        int what;
    }

    static List<Line> readBook(State s, Tokens t) {
        List<Line> lines = new ArrayList<>();
        while (t.peek().kind != 'e') {
            Line line = new Line();
            int place = t.peek().place;
            if (t.isNext("year")) {
                line.verb = "year";
                t.at++;
            } else {
                line.person = personOf(s, t.name(sortsOf(s), "person"));
            }
            if (lines.size() == 40) throw new Fault(4, place);
            if (line.verb != null) {
                line.what = t.number(1, 60);
            } else {
                if (t.peek().kind != 'w') throw t.fault(1);
                line.verb = t.peek().text;
                if (!Arrays.asList("gets", "loses", "moves", "leaves", "comes").contains(line.verb)) throw t.fault(1);
                t.at++;
                if (line.verb.equals("gets") || line.verb.equals("loses")) line.what = s.marks.indexOf(t.name(sortsOf(s), "mark"));
                if (line.verb.equals("moves")) line.what = s.streets.indexOf(t.name(sortsOf(s), "street"));
            }
            t.need(";");
            lines.add(line);
        }
        return lines;
    }

    static final class Node {
        String word;
        String sign;
        int number;
        List<Node> parts = new ArrayList<>();

        boolean holds(State s, int i) {
            Someone p = s.persons.get(i);
            switch (word) {
                case "or":
                    return parts.stream().anyMatch(n -> n.holds(s, i));
                case "and":
                    return parts.stream().allMatch(n -> n.holds(s, i));
                case "not":
                    return !parts.get(0).holds(s, i);
                case "away":
                    return p.away;
                case "man":
                    return !p.woman;
                case "woman":
                    return p.woman;
                case "has":
                    return p.marks.contains(number);
                case "in":
                    return p.street == number;
                case "rides":
                    return p.trams.contains(number);
                default:
                    int n = word.equals("minds") ? p.minds : word.equals("marks") ? p.marks.size() : i;
                    return sign.equals("<") ? n < number : sign.equals("=") ? n == number : n > number;
            }
        }
    }

    static final class SentenceText {
        final State s;
        final Tokens t;
        int ones;

        SentenceText(State s, Tokens t) {
            this.s = s;
            this.t = t;
        }

        Node whole() {
            Node n = cond(0);
            if (t.peek().kind != 'e') throw t.fault(1);
            return n;
        }

        Node cond(int within) {
            Node n = new Node();
            n.word = "or";
            n.parts.add(all(within));
            while (t.isNext("or")) {
                t.at++;
                n.parts.add(all(within));
            }
            return n;
        }

        Node all(int within) {
            Node n = new Node();
            n.word = "and";
            n.parts.add(one(within));
            while (t.isNext("and")) {
                t.at++;
                n.parts.add(one(within));
            }
            return n;
        }

        Node one(int within) {
            boolean bracket = t.isNext("(");
            String word = t.peek().text;
            if (!bracket && (t.peek().kind != 'w' || !Arrays.asList("not", "away", "man", "woman", "has", "in", "rides",
                    "minds", "marks", "number").contains(word))) throw t.fault(1);
            if (ones == 20 || within == 8) throw t.fault(4);
            ones++;
            t.at++;
            if (bracket) {
                Node n = cond(within + 1);
                t.need(")");
                return n;
            }
            Node n = new Node();
            n.word = word;
            if (word.equals("not")) n.parts.add(one(within + 1));
            if (word.equals("has")) n.number = s.marks.indexOf(t.name(sortsOf(s), "mark"));
            if (word.equals("in")) n.number = s.streets.indexOf(t.name(sortsOf(s), "street"));
            if (word.equals("rides")) n.number = s.trams.indexOf(t.name(sortsOf(s), "tram"));
            if (Arrays.asList("minds", "marks", "number").contains(word)) {
                if (!t.isNext("<") && !t.isNext("=") && !t.isNext(">")) throw t.fault(1);
                n.sign = t.peek().text;
                t.at++;
                n.number = t.number(0, 999);
            }
            return n;
        }
    }

    // ---- the calls ----

    State now = new State();
    Node sentence;
    byte[] tape = new byte[0];
    int fault;
    ArrayDeque<State> past = new ArrayDeque<>();
    State[] images = new State[2];
    Node[] imagedSentences = new Node[2];
    int who = -1, burdens = -1, familyOf = -1, changed = -1, surely = -1, look = -1;
    int[] told;
    String plate = "";

    void keep(State before) {
        past.addLast(before);
        if (past.size() > 8) past.removeFirst();
    }

    byte[] takeTape() {
        byte[] was = tape;
        tape = new byte[0];
        return was;
    }

    int district() {
        State s = new State();
        fault = 0;
        try {
            int lines = readDistrict(s, new Tokens(takeTape(), 900));
            now = s;
            sentence = null;
            past.clear();
            return lines;
        } catch (Fault f) {
            fault = f.kind;
            return -1 - f.place;
        }
    }

    int book(int lives) {
        if (lives < 0 || lives > 1) return -1000;
        fault = 0;
        try {
            List<Line> lines = readBook(now, new Tokens(takeTape(), 400));
            State then = now.copy();
            int right = 0;
            int why = 0;
            for (Line line : lines) {
                if (line.verb.equals("year")) {
                    why = then.year + line.what > 200 ? 51 : 0;
                    for (int i = 0; why == 0 && i < line.what; i++) then.goYear();
                } else {
                    why = then.act(line.verb, line.person, line.what);
                    if (why != 0) why += 10 * Arrays.asList("gets", "loses", "moves", "leaves", "comes").indexOf(line.verb);
                }
                if (why != 0) break;
                right++;
            }
            told = new int[] {why, right, then.year, then.offAll()};
            if (lives == 1) {
                keep(now);
                now = then;
            }
            return why == 0 ? -1 : right;
        } catch (Fault f) {
            fault = f.kind;
            return -2 - f.place;
        }
    }

    int sentence() {
        fault = 0;
        try {
            SentenceText text = new SentenceText(now, new Tokens(takeTape(), 200));
            sentence = text.whole();
            return text.ones;
        } catch (Fault f) {
            fault = f.kind;
            return -1 - f.place;
        }
    }

    int said(int k) {
        if (sentence == null) return -1;
        List<Integer> ofWhom = new ArrayList<>();
        for (int i = 0; i < now.persons.size(); i++) {
            if (sentence.holds(now, i)) ofWhom.add(i);
        }
        if (k == -1) return ofWhom.size();
        return k >= 0 && k < ofWhom.size() ? ofWhom.get(k) : -1;
    }

    boolean isPerson(int p) {
        return p >= 0 && p < now.persons.size();
    }

    boolean isMark(int m) {
        return m >= 0 && m < now.marks.size();
    }

    boolean isSet(int s) {
        return s >= 0 && s < now.sets().size();
    }

    int count(int what) {
        int[] all = {now.streets.size(), now.trams.size(), now.persons.size(), now.marks.size(), now.sets().size(), tape.length};
        return what >= 0 && what < 6 ? all[what] : -1;
    }

    /** -7 where it throws. */
    int person(int p, int what) {
        if (!isPerson(p) || what < 0 || what > 6) return -7;
        Someone s = now.persons.get(p);
        int sum = 0;
        for (int m : s.marks) sum += now.burden(p, m);
        return new int[] {s.street, s.woman ? 1 : 0, s.minds, s.away ? 1 : 0, bits(s.marks), bits(s.trams), sum}[what];
    }

    int burden(int p, int m) {
        return isPerson(p) && isMark(m) ? now.burden(p, m) : -1;
    }

    int members(int s) {
        return isSet(s) ? bits(now.sets().get(s)) : -1;
    }

    int due(int s, int m) {
        return isSet(s) && isMark(m) ? now.dueOf(now.sets().get(s).size(), m) : -1;
    }

    int have(int s, int m) {
        return isSet(s) && isMark(m) ? common(now.sets().get(s), now.holders(m)) : -1;
    }

    int rest(int s, int m) {
        return isSet(s) && isMark(m) ? now.sets().get(s).size() * now.shares.get(m)[0] % now.shares.get(m)[1] : -1;
    }

    int off(int m) {
        return isMark(m) ? now.off(m) : -1;
    }

    int now(int what) {
        int away = 0;
        int sum = 0;
        for (int p = 0; p < now.persons.size(); p++) {
            if (now.persons.get(p).away) away |= 1 << p;
            else sum += person(p, 6);
        }
        return what < 0 || what > 5 ? -1 : new int[] {now.year, away, now.wrongs, now.offAll(), sum, now.changes}[what];
    }

    int act(String verb, int p, int what) {
        boolean there = isPerson(p) && (verb.equals("leaves") || verb.equals("comes")
                || (verb.equals("moves") ? what >= 0 && what < now.streets.size() : isMark(what)));
        if (!there) return -1;
        State before = now.copy();
        int why = now.act(verb, p, what);
        if (why == 0) keep(before);
        return why;
    }

    int years(int n) {
        if (n < 1 || n > 60) return -1;
        State before = now.copy();
        int gone = 0;
        while (gone < n && now.year < 200) {
            now.goYear();
            gone++;
        }
        if (gone > 0) keep(before);
        return gone;
    }

    int drawn(int n, int seed) {
        if (n < 1 || n > 60 || now.persons.isEmpty()) return -1;
        State before = now.copy();
        int gone = now.goDrawn(n, seed);
        if (gone > 0) keep(before);
        return gone;
    }

    int undo() {
        if (past.isEmpty()) return -1;
        now = past.removeLast();
        return past.size();
    }

    /** OFF, who, burdens; a person's burden may be another one. */
    int[] leastOf(int m, int other, int n) {
        List<Set<Integer>> groups = now.groups();
        int[] offs = now.offs(m, groups);
        int[] best = null;
        for (int i = 0; i < offs.length; i++) {
            int sum = 0;
            for (int p : groups.get(i)) sum += p == other ? n : now.burden(p, m);
            int[] it = {offs[i], bits(groups.get(i)), sum};
            if (best == null || it[0] < best[0] || it[0] == best[0]
                    && (it[2] < best[2] || it[2] == best[2] && it[1] < best[1])) best = it;
        }
        return best;
    }

    int least(int m) {
        if (!isMark(m)) return -1;
        int[] best = leastOf(m, -1, 0);
        who = best[1];
        burdens = best[2];
        return best[0];
    }

    int family(int m) {
        if (!isMark(m)) return -1;
        List<Set<Integer>> sets = now.sets();
        Set<Integer> rights = new HashSet<>();
        for (Set<Integer> group : now.groups()) {
            int right = 0;
            for (int s = 0; s < sets.size(); s++) {
                if (common(sets.get(s), group) == now.dueOf(sets.get(s).size(), m)) right |= 1 << s;
            }
            rights.add(right);
        }
        for (int size = 1; size <= sets.size(); size++) {
            for (int f = 0; f < 1 << sets.size(); f++) {
                if (Integer.bitCount(f) != size) continue;
                boolean can = false;
                for (int right : rights) can |= (f & ~right) == 0;
                if (!can) {
                    familyOf = f;
                    return size;
                }
            }
        }
        return -1;
    }

    int changes(int m) {
        if (!isMark(m)) return -1;
        List<Set<Integer>> groups = now.groups();
        int[] offs = now.offs(m, groups);
        int least = Arrays.stream(offs).min().getAsInt();
        int has = bits(now.holders(m)) & members(0);
        int best = -1;
        for (int i = 0; i < offs.length; i++) {
            int change = bits(groups.get(i)) ^ has;
            if (offs[i] == least && (best < 0 || Integer.bitCount(change) < Integer.bitCount(best)
                    || Integer.bitCount(change) == Integer.bitCount(best) && change < best)) best = change;
        }
        changed = best;
        return Integer.bitCount(best);
    }

    int house(int p) {
        if (!isPerson(p) || now.persons.get(p).away) return -1;
        int own = now.persons.get(p).street;
        int best = own;
        int least = now.offAll();
        for (int s = 0; s < now.streets.size(); s++) {
            now.persons.get(p).street = s;
            if (now.offAll() < least) {
                least = now.offAll();
                best = s;
            }
        }
        now.persons.get(p).street = own;
        return best;
    }

    int both(int m, int k) {
        if (!isMark(m) || !isMark(k) || m == k) return -1;
        List<Set<Integer>> groups = now.groups();
        int[] a = now.offs(m, groups);
        int[] b = now.offs(k, groups);
        int leastA = Arrays.stream(a).min().getAsInt();
        int leastB = Arrays.stream(b).min().getAsInt();
        int fewest = 99;
        for (int i = 0; i < a.length; i++) {
            for (int j = 0; j < b.length && a[i] == leastA; j++) {
                if (b[j] == leastB) fewest = Math.min(fewest, Integer.bitCount(bits(groups.get(i)) & bits(groups.get(j))));
            }
        }
        return fewest;
    }

    int spared(int p, int m, int n) {
        if (!isPerson(p) || !isMark(m) || n < 0 || n > 99) return -1;
        if ((leastOf(m, -1, 0)[1] >> p & 1) == 0) return -1;
        return 1 - (leastOf(m, p, n)[1] >> p & 1);
    }

    int counts() {
        byte[] t = takeTape();
        if (t.length % 2 != 0 || t.length == 0 || t.length > 16) return -1;
        for (int i = 0; i < t.length; i += 2) {
            if (!isSet(t[i] & 255)) return -1;
        }
        List<Set<Integer>> sets = now.sets();
        List<Set<Integer>> may = new ArrayList<>();
        for (Set<Integer> group : now.groups()) {
            boolean can = true;
            for (int i = 0; i < t.length; i += 2) can &= common(group, sets.get(t[i] & 255)) == (t[i + 1] & 255);
            if (can) may.add(group);
        }
        if (may.isEmpty()) return 0;
        surely = -1;
        for (Set<Integer> group : may) surely &= bits(group);
        int least = Integer.MAX_VALUE;
        for (int s = 0; s < sets.size(); s++) {
            Map<Integer, Integer> left = new HashMap<>();
            for (Set<Integer> group : may) left.merge(common(group, sets.get(s)), 1, Integer::sum);
            int most = left.values().stream().max(Integer::compare).get();
            if (most < least) {
                least = most;
                look = s;
            }
        }
        return may.size();
    }

    int cut(int t, int m) {
        if (t < 0 || t >= now.trams.size() || !isMark(m)) return -1;
        List<Integer> riding = new ArrayList<>(new java.util.TreeSet<>(now.sets().get(5 + now.streets.size() + t)));
        int cuts = 0;
        for (int k = 0; k <= riding.size(); k++) {
            int front = common(new HashSet<>(riding.subList(0, k)), now.holders(m));
            int back = common(new HashSet<>(riding.subList(k, riding.size())), now.holders(m));
            if (front == now.dueOf(k, m) && back == now.dueOf(riding.size() - k, m)) cuts |= 1 << k;
        }
        return cuts;
    }

    int settles() {
        State then = now.copy();
        for (int i = 0; i < 60 && then.year < 200; i++) {
            int year = then.year;
            if (then.goYear() == 0) return year;
        }
        return -1;
    }

    int plate(int p) {
        if (!isPerson(p)) return -1;
        Someone s = now.persons.get(p);
        List<String> names = new ArrayList<>();
        for (int m = 0; m < now.marks.size(); m++) {
            if (s.marks.contains(m)) names.add(now.marks.get(m));
        }
        plate = s.name + (s.away ? " is away" : names.isEmpty() ? " has none" : " has " + String.join(" and ", names));
        return plate.length();
    }

    int byteAt(int i) {
        return i >= 0 && i < plate.length() ? plate.charAt(i) : -1;
    }

    int odds(int m, int n, int seed) {
        if (!isMark(m) || n < 1 || n > 30 || now.persons.isEmpty()) return -1;
        int right = 0;
        for (int i = 0; i < n; i++) {
            State then = now.copy();
            then.goDrawn(10, seed + i);
            if (then.off(m) == 0) right++;
        }
        return right;
    }

    int told(int what) {
        return told == null || what < 0 || what > 3 ? -1 : told[what];
    }

    boolean image(int k) {
        if (k < 0 || k > 1) return false;
        images[k] = now.copy();
        imagedSentences[k] = sentence;
        return true;
    }

    boolean restore(int k) {
        if (k < 0 || k > 1 || images[k] == null) return false;
        now = images[k].copy();
        sentence = imagedSentences[k];
        past.clear();
        return true;
    }

    int feed(int[] five) {
        if (tape.length + 20 > 940) return -1;
        int was = tape.length;
        tape = Arrays.copyOf(tape, was + 20);
        for (int i = 0; i < 20; i++) tape[was + i] = (byte) (five[i / 4] >> 24 - i % 4 * 8);
        return tape.length;
    }

    boolean end(int n) {
        if (n < 0 || n > tape.length) return false;
        tape = Arrays.copyOf(tape, n);
        return true;
    }
}
