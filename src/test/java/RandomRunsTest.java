import java.nio.charset.StandardCharsets;
import java.util.NoSuchElementException;
import java.util.Random;

/** Random runs of calls, each answer held against PlainDistrict's. An argument: how many runs. */
public final class RandomRunsTest {
    private static final String[] STREETS = {"ash", "elm", "oakwood", "fir"};
    private static final String[] TRAMS = {"red", "blue", "g"};
    private static final String[] PERSONS = {"ann", "bob", "cid", "dot", "eve", "fay", "gus", "hal", "ida", "janette"};
    private static final String[] MARKS = {"oboe", "sad", "tuba"};
    private static final String[] ODD_TOKENS = {"street", "tram", "person", "mark", "man", "woman", "away", "rides", "has", "hates",
        "gets", "loses", "moves", "leaves", "comes", "year", "or", "and", "not", "in", "minds", "marks", "number",
        ";", "<", "=", ">", "(", ")", ".", "A", "a1", "1a", "0", "1", "007", "20", "21", "40", "41", "60", "61", "1000",
        "abcdefg", "abcdefgh", "\t", "\u00e9", "ann", "oboe", "ash", "red", "zoe"};

    private final Random random;
    private final long seed;
    private final OboeDistrict real = new OboeDistrict();
    private final PlainDistrict plain = new PlainDistrict();
    private final StringBuilder log = new StringBuilder();
    private int calls;

    private RandomRunsTest(long seed) {
        this.seed = seed;
        random = new Random(seed);
    }

    public static void main(String[] args) {
        int runs = args.length > 0 ? Integer.parseInt(args[0]) : 150;
        long first = args.length > 1 ? Long.parseLong(args[1]) : 1;
        for (int i = 0; i < runs; i++) {
            new RandomRunsTest(first + i).run();
        }
        System.out.println(runs + " random runs are as due");
    }

    private void run() {
        int steps = 10 + random.nextInt(70);
        if (random.nextInt(10) != 0) {
            tellDistrict(false);
        }
        while (steps-- > 0 && calls < 500) {
            step();
        }
    }

    private void same(String call, long got, long want) {
        calls++;
        log.append(call).append(" -> ").append(want).append('\n');
        if (got != want) {
            System.out.println(log);
            System.out.println("seed " + seed + ": " + call + " answered " + got + ", plainly " + want);
            System.exit(1);
        }
    }

    private int upTo(int n) {
        return random.nextInt(n);
    }

    /** Mostly one of n, at times one that is none. */
    private int about(int n) {
        return upTo(12) == 0 ? new int[] {-1, n, n + 1, 31, 32, 33, Integer.MIN_VALUE, Integer.MAX_VALUE}[upTo(8)] : n == 0 ? 0 : upTo(n);
    }

    private String one(String... of) {
        return of[upTo(of.length)];
    }

    private void tellTape(byte[] bytes) {
        int from = 0;
        while (from < bytes.length && calls < 500) {
            int[] five = new int[5];
            for (int i = 0; i < 20; i++) {
                int b = from + i < bytes.length ? bytes[from + i] & 255 : upTo(256);
                five[i / 4] |= b << 24 - i % 4 * 8;
            }
            same("feed", real.feed(five[0], five[1], five[2], five[3], five[4]), plain.feed(five));
            from += 20;
        }
        same("end(" + bytes.length + ")", real.end(bytes.length) ? 1 : 0, plain.end(bytes.length) ? 1 : 0);
    }

    private void tellTape(String text) {
        log.append("tape: ").append(text.replace("\n", "\\n")).append('\n');
        tellTape(text.getBytes(StandardCharsets.ISO_8859_1));
    }

    /** A text with something wrong in it, often. */
    private String spoiled(String text, int most) {
        String[] tokens = text.split(" ");
        int spoils = upTo(3);
        for (int i = 0; i < spoils; i++) {
            int at = upTo(tokens.length);
            if (tokens[at].matches("[0-9]+")) {
                tokens[at] = one("0", "1", "20", "21", "40", "41", "60", "61", "999", "1000", "00", "x");
                continue;
            }
            switch (upTo(4)) {
                case 0:
                    tokens[at] = one(ODD_TOKENS);
                    break;
                case 1:
                    tokens[at] = "";
                    break;
                case 2:
                    tokens[at] = tokens[at] + " " + one(ODD_TOKENS);
                    break;
                default:
                    tokens[at] = tokens[upTo(tokens.length)];
                    break;
            }
        }
        String all = String.join(one(" ", "\n", "  "), tokens);
        if (upTo(4) == 0) {
            all = all.replace(" ;", ";").replace("; ", ";");
        }
        if (upTo(6) == 0) {
            all = all.substring(0, upTo(all.length() + 1));
        }
        if (upTo(5) == 0) {
            StringBuilder padded = new StringBuilder(all);
            int target = Math.min(940, most - 6 + upTo(12));
            while (padded.length() < target) {
                padded.insert(upTo(3) == 0 ? padded.length() : 0, ' ');
            }
            if (upTo(2) == 0) {
                padded.append(one(ODD_TOKENS));
            }
            all = padded.toString();
        }
        return all.length() > 940 ? all.substring(0, 940) : all;
    }

    private void tellDistrict(boolean mayBeSpoiled) {
        StringBuilder text = new StringBuilder();
        int streets = 1 + upTo(4);
        int trams = upTo(4);
        int persons = upTo(3) == 0 ? upTo(11) : 4 + upTo(7);
        int marks = upTo(4);
        for (int i = 0; i < streets; i++) {
            text.append("street ").append(STREETS[i]).append(" ; ");
        }
        for (int i = 0; i < trams; i++) {
            text.append("tram ").append(TRAMS[i]).append(" ; ");
        }
        for (int i = 0; i < marks; i++) {
            int b = 1 + upTo(upTo(2) == 0 ? 4 : 40);
            text.append("mark ").append(MARKS[i]).append(' ').append(upTo(b + 1)).append(' ').append(b).append(" ; ");
        }
        int minds = upTo(2) == 0 ? 3 : 21;
        for (int i = 0; i < persons; i++) {
            text.append("person ").append(PERSONS[i]).append(' ').append(STREETS[upTo(streets)]).append(one(" man ", " woman "))
                    .append(upTo(minds)).append(upTo(6) == 0 ? " away ; " : " ; ");
        }
        String[] ties = {"rides", "has", "hates"};
        for (int p = 0; p < persons; p++) {
            for (String tie : ties) {
                int many = tie.equals("rides") ? trams : marks;
                for (int o = 0; o < many; o++) {
                    if (upTo(tie.equals("hates") ? 6 : 3) == 0) {
                        text.append(tie).append(' ').append(PERSONS[p]).append(' ').append(tie.equals("rides") ? TRAMS[o] : MARKS[o]);
                        text.append(tie.equals("hates") ? " " + (1 + upTo(20)) : "").append(" ; ");
                    }
                }
            }
        }
        String told = mayBeSpoiled ? spoiled(text.toString(), 900) : text.toString();
        if (told.length() > 900 && !mayBeSpoiled) {
            told = told.substring(0, told.lastIndexOf(';', 899) + 1);
        }
        tellTape(told);
        same("district()", real.district(), plain.district());
        same("fault()", real.fault(), plain.fault);
        for (int i = 0; i < 7; i++) {
            same("count(" + i + ")", real.count(i), plain.count(i));
        }
    }

    private String someone() {
        int n = plain.now.persons.size();
        return n == 0 || upTo(40) == 0 ? one(ODD_TOKENS) : plain.now.persons.get(upTo(n)).name;
    }

    private String some(java.util.List<String> of) {
        return of.isEmpty() || upTo(40) == 0 ? one(ODD_TOKENS) : of.get(upTo(of.size()));
    }

    private void tellBook() {
        StringBuilder text = new StringBuilder();
        int lines = upTo(8) == 0 ? 38 + upTo(5) : upTo(6);
        for (int i = 0; i < lines; i++) {
            switch (upTo(lines > 20 ? 2 : 6)) {
                case 0:
                    text.append("year ").append(lines > 20 ? 1 : 1 + upTo(upTo(2) == 0 ? 4 : 61)).append(" ; ");
                    break;
                case 1:
                    text.append(someone()).append(lines > 20 ? " leaves ; " : one(" leaves ; ", " comes ; "));
                    break;
                case 2:
                    text.append(someone()).append(" moves ").append(some(plain.now.streets)).append(" ; ");
                    break;
                default:
                    text.append(someone()).append(one(" gets ", " loses ")).append(some(plain.now.marks)).append(" ; ");
                    break;
            }
        }
        String told = text.toString();
        if (lines > 20) {
            told = told.replace(" ; ", ";");
        }
        tellTape(upTo(3) != 0 ? told : spoiled(told, 400));
        int lives = about(2);
        same("book(" + lives + ")", real.book(lives), plain.book(lives));
        same("fault()", real.fault(), plain.fault);
        for (int i = -1; i < 5; i++) {
            same("told(" + i + ")", real.told(i), plain.told(i));
        }
    }

    private String cond(int depth) {
        StringBuilder text = new StringBuilder(one(depth));
        while (upTo(3) == 0) {
            text.append(one(" or ", " and ")).append(one(depth));
        }
        return text.toString();
    }

    private String one(int depth) {
        switch (upTo(depth > 8 ? 8 : 12)) {
            case 0:
                return "away";
            case 1:
                return "man";
            case 2:
                return "woman";
            case 3:
                return "has " + some(plain.now.marks);
            case 4:
                return "in " + some(plain.now.streets);
            case 5:
                return "rides " + some(plain.now.trams);
            case 6:
            case 7:
                return one("minds ", "marks ", "number ") + one("< ", "= ", "> ") + upTo(upTo(3) == 0 ? 1002 : 8);
            case 8:
            case 9:
                return "not " + one(depth + 1);
            default:
                return "( " + cond(depth + 1) + " )";
        }
    }

    private void tellSentence() {
        String text = cond(upTo(4));
        tellTape(upTo(2) == 0 ? text : spoiled(text, 200));
        same("sentence()", real.sentence(), plain.sentence());
        same("fault()", real.fault(), plain.fault);
        sayAll();
    }

    private void sayAll() {
        for (int k = -2; k < 11; k++) {
            same("said(" + k + ")", real.said(k), plain.said(k));
        }
    }

    private void countSets() {
        int pairs = upTo(10) == 0 ? upTo(11) : 1 + upTo(3);
        byte[] bytes = new byte[2 * pairs + (upTo(20) == 0 ? 1 : 0)];
        int hidden = upTo(1024);
        for (int i = 0; i + 1 < bytes.length; i += 2) {
            bytes[i] = (byte) about(plain.count(4));
            boolean there = bytes[i] >= 0 && bytes[i] < plain.count(4);
            bytes[i + 1] = (byte) (there && upTo(8) != 0 ? Integer.bitCount(hidden & plain.members(bytes[i])) : upTo(upTo(2) == 0 ? 4 : 256));
        }
        tellTape(bytes);
        same("counts()", real.counts(), plain.counts());
        same("surely()", real.surely(), plain.surely);
        same("look()", real.look(), plain.look);
    }

    private void askPersons() {
        int p = about(plain.count(2));
        for (int what = -1; what < 8; what++) {
            int got;
            try {
                got = real.person(p, what);
            } catch (NoSuchElementException e) {
                got = -7;
            }
            same("person(" + p + ", " + what + ")", got, plain.person(p, what));
        }
        same("plate(" + p + ")", real.plate(p), plain.plate(p));
        for (int i = -1; i < 46; i += 1 + upTo(3)) {
            same("byteAt(" + i + ")", real.byteAt(i), plain.byteAt(i));
        }
        same("house(" + p + ")", real.house(p), plain.house(p));
    }

    private void askSets() {
        int m = about(plain.count(3));
        int s = about(plain.count(4));
        int p = about(plain.count(2));
        same("members(" + s + ")", real.members(s), plain.members(s));
        same("due(" + s + ", " + m + ")", real.due(s, m), plain.due(s, m));
        same("have(" + s + ", " + m + ")", real.have(s, m), plain.have(s, m));
        same("rest(" + s + ", " + m + ")", real.rest(s, m), plain.rest(s, m));
        same("off(" + m + ")", real.off(m), plain.off(m));
        same("burden(" + p + ", " + m + ")", real.burden(p, m), plain.burden(p, m));
        int t = about(plain.count(1));
        same("cut(" + t + ", " + m + ")", real.cut(t, m), plain.cut(t, m));
    }

    private void askSearch() {
        int m = about(plain.count(3));
        int k = about(plain.count(3));
        int p = about(plain.count(2));
        int n = about(100);
        switch (upTo(5)) {
            case 0:
                same("least(" + m + ")", real.least(m), plain.least(m));
                break;
            case 1:
                same("family(" + m + ")", real.family(m), plain.family(m));
                break;
            case 2:
                same("changes(" + m + ")", real.changes(m), plain.changes(m));
                break;
            case 3:
                same("both(" + m + ", " + k + ")", real.both(m, k), plain.both(m, k));
                break;
            default:
                same("spared(" + p + ", " + m + ", " + n + ")", real.spared(p, m, n), plain.spared(p, m, n));
                break;
        }
        same("who()", real.who(), plain.who);
        same("burdens()", real.burdens(), plain.burdens);
        same("familyOf()", real.familyOf(), plain.familyOf);
        same("changed()", real.changed(), plain.changed);
    }

    private void act() {
        int p = about(plain.count(2));
        int m = about(plain.count(3));
        int s = about(plain.count(0));
        switch (upTo(6)) {
            case 0:
                same("give(" + p + ", " + m + ")", real.give(p, m), plain.act("gets", p, m));
                break;
            case 1:
                same("take(" + p + ", " + m + ")", real.take(p, m), plain.act("loses", p, m));
                break;
            case 2:
                same("move(" + p + ", " + s + ")", real.move(p, s), plain.act("moves", p, s));
                break;
            case 3:
                same("leave(" + p + ")", real.leave(p), plain.act("leaves", p, 0));
                break;
            case 4:
                same("come(" + p + ")", real.come(p), plain.act("comes", p, 0));
                break;
            default:
                same("undo()", real.undo(), plain.undo());
                break;
        }
    }

    private void askNow() {
        for (int what = -1; what < 7; what++) {
            same("now(" + what + ")", real.now(what), plain.now(what));
        }
    }

    private void letYearsGo() {
        int n = upTo(4) == 0 ? new int[] {0, 1, 60, 61, -1}[upTo(5)] : 1 + upTo(upTo(2) == 0 ? 4 : 60);
        int seed = random.nextInt();
        if (upTo(2) == 0) {
            same("years(" + n + ")", real.years(n), plain.years(n));
        } else {
            same("drawn(" + n + ", " + seed + ")", real.drawn(n, seed), plain.drawn(n, seed));
        }
        askNow();
    }

    private void askYears() {
        int m = about(plain.count(3));
        int n = upTo(4) == 0 ? new int[] {0, 1, 30, 31, -1}[upTo(5)] : 1 + upTo(5);
        int seed = upTo(3) == 0 ? Integer.MAX_VALUE - upTo(3) : random.nextInt();
        same("settles()", real.settles(), plain.settles());
        same("odds(" + m + ", " + n + ", " + seed + ")", real.odds(m, n, seed), plain.odds(m, n, seed));
    }

    private void keepOrRestore() {
        int k = about(2);
        if (upTo(2) == 0) {
            same("image(" + k + ")", real.image(k) ? 1 : 0, plain.image(k) ? 1 : 0);
        } else {
            same("restore(" + k + ")", real.restore(k) ? 1 : 0, plain.restore(k) ? 1 : 0);
            askNow();
            sayAll();
        }
    }

    private void step() {
        switch (upTo(16)) {
            case 0:
                tellDistrict(upTo(3) != 0);
                break;
            case 1:
            case 2:
                tellBook();
                break;
            case 3:
                tellSentence();
                break;
            case 4:
                countSets();
                break;
            case 5:
                askPersons();
                break;
            case 6:
                askSets();
                break;
            case 7:
            case 8:
                askSearch();
                break;
            case 9:
                letYearsGo();
                break;
            case 10:
                askYears();
                break;
            case 11:
                keepOrRestore();
                break;
            case 12:
                askNow();
                break;
            default:
                act();
                act();
                break;
        }
    }
}
