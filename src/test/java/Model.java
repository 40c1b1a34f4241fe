import java.util.ArrayList;
import java.util.Arrays;
import java.util.Comparator;
import java.util.List;
import java.util.TreeSet;
import java.util.stream.Collectors;
import java.util.stream.IntStream;

/**
 * The document once more, in the most naive way: all ways to say a sentence are tried, all sets are listed,
 * each step keeps a whole copy. ModelTest holds the class against it.
 */
final class Model {
    static final int NONE = -1;

    record Word(String letters, int kind, int sense, int stiff) { }

    record Line(int day, int which, int what, int howMuch) { }

    record Said(List<Integer> words, int stiffness) { }

    /** LOST, USE, SECONDS, DAY, X, BOOK. */
    static final class Machine {
        TreeSet<Integer> lost = new TreeSet<>();
        int[] use = new int[26];
        int seconds;
        int day;
        int x = 173;
        List<Line> book = new ArrayList<>();

        Machine copy() {
            Machine m = new Machine();
            m.lost.addAll(lost);
            m.use = use.clone();
            m.seconds = seconds;
            m.day = day;
            m.x = x;
            m.book.addAll(book);
            return m;
        }
    }

    static final class State {
        List<Word> words = new ArrayList<>();
        List<List<Integer>> sentences = new ArrayList<>();
        List<Script> texts = new ArrayList<>();
        int theText = NONE;
        int[] of = new int[26];
        int[] look = new int[26];
        List<Integer> page = new ArrayList<>();
        List<String> report = new ArrayList<>();
        List<int[]> heard = new ArrayList<>();
        Machine m = new Machine();
        List<Machine> steps = new ArrayList<>();

        State() {
            Arrays.fill(of, NONE);
        }

        State copy() {
            State s = new State();
            s.words.addAll(words);
            s.sentences.addAll(sentences);
            s.texts.addAll(texts);
            s.theText = theText;
            s.of = of.clone();
            s.look = look.clone();
            s.page.addAll(page);
            s.report.addAll(report);
            s.heard.addAll(heard);
            s.m = m.copy();
            for (Machine step : steps) {
                s.steps.add(step.copy());
            }
            return s;
        }
    }

    State s = new State();
    State kept = new State();
    List<Integer> tape = new ArrayList<>();
    int[] fault;
    int[] status = new int[3];

    // ---- texts

    interface Sum {
        long value(java.util.Map<String, Integer> names, int[] use);
    }

    static final class Script {
        Sum[] laws = new Sum[3];
        List<Object[]> clauses = new ArrayList<>();
    }

    static final class Fault extends RuntimeException {
        final int what;
        final int place;

        Fault(int what, int place) {
            super("", null, false, false);
            this.what = what;
            this.place = place;
        }
    }

    static final class Parser {
        static final List<String> SIGNS = List.of("<=", ">=", "<", ">", "=", "#", "+", "-", "*", "/", "(", ")", ",", ";");
        static final List<List<String>> NAMES = List.of(
                List.of("day", "lost", "kind", "told", "long", "holes", "extra"),
                List.of("day", "lost", "letter", "use"),
                List.of("day", "lost", "line", "total", "seconds"));

        final List<String> tokens = new ArrayList<>();
        final List<Integer> places = new ArrayList<>();
        int at;
        int law;
        final Script script = new Script();

        Parser(String source) {
            int i = 0;
            while (i < source.length()) {
                char c = source.charAt(i);
                if (c == ' ' || c == '\n') {
                    i++;
                    continue;
                }
                int from = i;
                String rest = source.substring(i);
                if (("" + c).matches("[a-zA-Z]")) {
                    i += rest.length() - rest.replaceFirst("^[a-zA-Z]+", "").length();
                } else if (("" + c).matches("[0-9]")) {
                    i += rest.length() - rest.replaceFirst("^[0-9]+", "").length();
                } else {
                    i += SIGNS.stream().filter(rest::startsWith).findFirst().orElse("?").length();
                }
                tokens.add(source.substring(from, i));
                places.add(from);
            }
            tokens.add("");
            places.add(source.length());
        }

        Fault fault(int what) {
            return new Fault(what, places.get(at));
        }

        String token() {
            return tokens.get(at);
        }

        boolean take(String wanted) {
            if (token().equals(wanted)) {
                at++;
                return true;
            }
            return false;
        }

        void need(String wanted) {
            if (!take(wanted)) {
                throw fault(1);
            }
        }

        int number(int low, int high) {
            if (!token().matches("[0-9]+")) {
                throw fault(1);
            }
            java.math.BigInteger n = new java.math.BigInteger(token());
            if (n.compareTo(java.math.BigInteger.valueOf(low)) < 0 || n.compareTo(java.math.BigInteger.valueOf(high)) > 0) {
                throw fault(2);
            }
            at++;
            return n.intValue();
        }

        String letters(int most) {
            if (!token().matches("[a-zA-Z]+")) {
                throw fault(1);
            }
            if (token().length() > most || !token().matches("[a-z]+")) {
                throw fault(7);
            }
            return tokens.get(at++);
        }

        Script parse() {
            while (!token().isEmpty()) {
                clause();
            }
            return script;
        }

        void clause() {
            List<String> kinds = List.of("stiff", "wears", "notices", "word", "say", "make", "lose", "turn", "write", "week");
            int kind = kinds.indexOf(token());
            if (kind < 0) {
                throw fault(1);
            }
            if (kind < 3 && script.laws[kind] != null) {
                throw fault(4);
            }
            if (script.clauses.size() == 24) {
                throw fault(6);
            }
            String name = tokens.get(at++);
            switch (name) {
                case "stiff", "wears", "notices" -> {
                    law = kind;
                    Sum sum = sum(0);
                    script.laws[kind] = sum;
                    script.clauses.add(new Object[] {name});
                }
                case "word" -> {
                    String l = letters(9);
                    need("kind");
                    int k = number(0, 6);
                    need("sense");
                    int se = number(0, 11);
                    need("stiff");
                    script.clauses.add(new Object[] {name, l, k, se, number(0, 9)});
                }
                case "say" -> {
                    List<Integer> senses = new ArrayList<>();
                    senses.add(number(0, 11));
                    while (token().equals(",")) {
                        if (senses.size() == 5) {
                            throw fault(8);
                        }
                        at++;
                        senses.add(number(0, 11));
                    }
                    script.clauses.add(new Object[] {name, senses});
                }
                case "make" -> {
                    int a = letters(1).charAt(0) - 'a';
                    need("of");
                    int b = letters(1).charAt(0) - 'a';
                    need("look");
                    script.clauses.add(new Object[] {name, a, b, number(0, 9)});
                }
                case "lose" -> script.clauses.add(new Object[] {name, letters(1).charAt(0) - 'a'});
                case "turn" -> script.clauses.add(new Object[] {name, number(0, 23)});
                case "write" -> script.clauses.add(new Object[] {name, number(0, 7)});
                default -> script.clauses.add(new Object[] {name, number(1, 40)});
            }
            need(";");
        }

        static long clip(long v) {
            return Math.max(-1000000, Math.min(1000000, v));
        }

        void open(int depth) {
            if (depth == 8) {
                throw fault(3);
            }
            at++;
        }

        Sum sum(int depth) {
            Sum left = product(depth);
            while (token().equals("+") || token().equals("-")) {
                int sign = tokens.get(at++).equals("+") ? 1 : -1;
                Sum a = left;
                Sum b = product(depth);
                left = (n, u) -> clip(a.value(n, u) + sign * b.value(n, u));
            }
            return left;
        }

        Sum product(int depth) {
            Sum left = one(depth);
            while (token().equals("*") || token().equals("/")) {
                boolean times = tokens.get(at++).equals("*");
                Sum a = left;
                Sum b = one(depth);
                left = (n, u) -> {
                    long x = a.value(n, u);
                    long y = b.value(n, u);
                    return clip(times ? x * y : y == 0 ? 0 : x / y);
                };
            }
            return left;
        }

        Sum one(int depth) {
            String t = token();
            if (t.matches("[0-9]+")) {
                int n = number(0, 9999);
                return (names, u) -> n;
            }
            switch (t) {
                case "(" -> {
                    open(depth);
                    Sum inner = sum(depth + 1);
                    need(")");
                    return inner;
                }
                case "-" -> {
                    open(depth);
                    Sum inner = one(depth + 1);
                    return (n, u) -> -inner.value(n, u);
                }
                case "uses" -> {
                    open(depth);
                    Sum inner = one(depth + 1);
                    return (n, u) -> {
                        long k = inner.value(n, u);
                        return k >= 0 && k <= 25 ? u[(int) k] : 0;
                    };
                }
                case "if" -> {
                    open(depth);
                    Sum ask = either(depth + 1);
                    need("then");
                    Sum yes = sum(depth + 1);
                    need("else");
                    Sum no = sum(depth + 1);
                    need("end");
                    return (n, u) -> ask.value(n, u) != 0 ? yes.value(n, u) : no.value(n, u);
                }
                default -> {
                    if (NAMES.get(law).contains(t)) {
                        at++;
                        return (n, u) -> n.get(t);
                    }
                    throw fault(NAMES.stream().anyMatch(l -> l.contains(t)) ? 5 : 1);
                }
            }
        }

        Sum either(int depth) {
            Sum left = both(depth);
            while (take("or")) {
                Sum a = left;
                Sum b = both(depth);
                left = (n, u) -> a.value(n, u) != 0 || b.value(n, u) != 0 ? 1 : 0;
            }
            return left;
        }

        Sum both(int depth) {
            Sum left = ask(depth);
            while (take("and")) {
                Sum a = left;
                Sum b = ask(depth);
                left = (n, u) -> a.value(n, u) != 0 && b.value(n, u) != 0 ? 1 : 0;
            }
            return left;
        }

        Sum ask(int depth) {
            if (token().equals("not")) {
                open(depth);
                Sum inner = ask(depth + 1);
                return (n, u) -> inner.value(n, u) != 0 ? 0 : 1;
            }
            Sum a = sum(depth);
            String op = token();
            if (!List.of("<", "<=", ">", ">=", "=", "#").contains(op)) {
                throw fault(1);
            }
            at++;
            Sum b = sum(depth);
            return (n, u) -> {
                long x = a.value(n, u);
                long y = b.value(n, u);
                boolean yes = switch (op) {
                    case "<" -> x < y;
                    case "<=" -> x <= y;
                    case ">" -> x > y;
                    case ">=" -> x >= y;
                    case "=" -> x == y;
                    default -> x != y;
                };
                return yes ? 1 : 0;
            };
        }
    }

    // ---- words with some keys lost

    int holes(Word w, TreeSet<Integer> lost) {
        return (int) w.letters.chars().filter(c -> lost.contains(c - 'a')).count();
    }

    boolean can(Word w, TreeSet<Integer> lost) {
        if (w.kind == 4 || w.kind == 6) {
            return true;
        }
        if (w.kind == 5) {
            return w.letters.chars().map(c -> c - 'a').filter(lost::contains)
                    .allMatch(c -> s.of[c] != NONE && !lost.contains(s.of[c]));
        }
        return holes(w, lost) == 0;
    }

    int extra(Word w, TreeSet<Integer> lost) {
        return switch (w.kind) {
            case 0, 6 -> 0;
            case 1 -> 1;
            case 2 -> 2;
            case 3 -> 4;
            case 4 -> holes(w, lost);
            default -> w.letters.chars().map(c -> c - 'a').filter(lost::contains).map(c -> s.look[c]).sum();
        };
    }

    int seconds(Word w, TreeSet<Integer> lost) {
        return w.kind == 4 ? 6 * holes(w, lost) : w.kind == 6 ? 9 * holes(w, lost) : 0;
    }

    Script ruling() {
        return s.theText == NONE ? null : s.texts.get(s.theText);
    }

    int byLaw(Script t, int law, int without, int most, TreeSet<Integer> lost, Object... names) {
        if (t == null || t.laws[law] == null) {
            return Math.max(0, Math.min(most, without));
        }
        java.util.Map<String, Integer> values = new java.util.HashMap<>();
        values.put("day", s.m.day);
        values.put("lost", lost.size());
        for (int i = 0; i < names.length; i += 2) {
            values.put((String) names[i], (Integer) names[i + 1]);
        }
        return (int) Math.max(0, Math.min(most, t.laws[law].value(values, s.m.use)));
    }

    int stiffness(Script t, Word w, TreeSet<Integer> lost) {
        return byLaw(t, 0, w.stiff + extra(w, lost), 99, lost, "kind", w.kind, "told", w.stiff,
                "long", w.letters.length(), "holes", holes(w, lost), "extra", extra(w, lost));
    }

    int noticeOdds(int line, Said said) {
        return byLaw(ruling(), 2, said.stiffness / 4, 10, s.m.lost, "line", line, "total", said.stiffness,
                "seconds", seconds(said));
    }

    int seconds(Said said) {
        return said.words.stream().mapToInt(w -> seconds(s.words.get(w), s.m.lost)).sum();
    }

    int length(Said said) {
        return said.words.stream().mapToInt(w -> s.words.get(w).letters.length()).sum();
    }

    int pence(Said said) {
        return said.words.stream().mapToInt(w -> s.words.get(w).kind == 2 ? 3 : 2).sum();
    }

    /** All ways, in the order of their words; the first of the least ones; null: none. */
    Said best(List<Integer> senses, TreeSet<Integer> lost, int lastWord) {
        int[] stiff = s.words.stream().mapToInt(w -> stiffness(ruling(), w, lost)).toArray();
        List<Said> ways = new ArrayList<>();
        ways.add(new Said(List.of(), 0));
        for (int p = 0; p < senses.size(); p++) {
            List<Said> longer = new ArrayList<>();
            for (Said way : ways) {
                for (int w = 0; w < s.words.size(); w++) {
                    Word word = s.words.get(w);
                    if (word.sense != senses.get(p) || !can(word, lost)
                            || p == senses.size() - 1 && lastWord != NONE && w != lastWord) {
                        continue;
                    }
                    int cost = stiff[w];
                    if (p > 0) {
                        int ahead = way.words.get(p - 1);
                        cost += ahead == w ? 3 : word.kind == 2 && s.words.get(ahead).kind == 2 ? 1 : 0;
                    }
                    List<Integer> words = new ArrayList<>(way.words);
                    words.add(w);
                    longer.add(new Said(words, way.stiffness + cost));
                }
            }
            ways = longer;
        }
        Said best = null;
        for (Said way : ways) {
            if (best == null || way.stiffness < best.stiffness) {
                best = way;
            }
        }
        return best;
    }

    Said best(int sentence) {
        return best(s.sentences.get(sentence), s.m.lost, NONE);
    }

    boolean isSentence(int n) {
        return n >= 0 && n < s.sentences.size();
    }

    boolean isWord(int n) {
        return n >= 0 && n < s.words.size();
    }

    boolean isKey(int n) {
        return n >= 0 && n < 26;
    }

    int refuse(int reason, int answer) {
        status[reason] = Math.min(9999, status[reason] + 1);
        return answer;
    }

    int bits(IntStream of) {
        return of.map(i -> 1 << i).reduce(0, (a, b) -> a | b);
    }

    String tapeText() {
        return tape.stream().map(b -> "" + (char) (int) b).collect(Collectors.joining());
    }

    void step() {
        s.steps.add(s.m.copy());
        if (s.steps.size() > 30) {
            s.steps.remove(0);
        }
    }

    void note(int which, int what, int howMuch) {
        s.m.book.add(new Line(s.m.day, which, what, howMuch));
        if (s.m.book.size() > 30) {
            s.m.book.remove(0);
        }
    }

    void press(Said said, int[] use) {
        for (int w : said.words) {
            Word word = s.words.get(w);
            for (char c : word.letters.toCharArray()) {
                int k = c - 'a';
                if (s.m.lost.contains(k)) {
                    if (word.kind != 5) {
                        continue;
                    }
                    k = s.of[k];
                }
                use[k] = Math.min(9999, use[k] + 1);
            }
        }
    }

    void written(int n, Said said) {
        press(said, s.m.use);
        s.m.seconds = Math.min(9999, s.m.seconds + seconds(said));
        note(n, 0, said.stiffness);
    }

    int draw(int by) {
        int drawn = s.m.x % by;
        s.m.x = (s.m.x * 409 + 283) % 30517;
        return drawn;
    }

    void day() {
        step();
        if (!s.sentences.isEmpty()) {
            int n = s.m.day % s.sentences.size();
            Said said = best(n);
            if (said != null) {
                written(n, said);
            } else {
                note(n, 1, 0);
            }
        }
        int k = draw(26);
        if (!s.m.lost.contains(k)) {
            int odds = byLaw(ruling(), 1, s.m.use[k] / 10, 10, s.m.lost, "letter", k, "use", s.m.use[k]);
            if (draw(10) < odds) {
                s.m.lost.add(k);
                note(k, 2, s.m.use[k]);
            }
        }
        s.m.day++;
    }

    // ---- the calls

    int feed(int a, int b, int c, int d, int e) {
        if (tape.size() > 280) {
            return NONE;
        }
        for (int v : new int[] {a, b, c, d, e}) {
            for (byte x : java.nio.ByteBuffer.allocate(4).putInt(v).array()) {
                tape.add(Byte.toUnsignedInt(x));
            }
        }
        return tape.size();
    }

    int end(int n) {
        if (n < 0 || n > tape.size()) {
            return NONE;
        }
        tape = new ArrayList<>(tape.subList(0, n));
        return n;
    }

    int text() {
        if (s.texts.size() == 4) {
            return NONE;
        }
        String source = tapeText();
        tape.clear();
        try {
            Script script = new Parser(source).parse();
            fault = new int[] {0, NONE};
            s.texts.add(script);
            return s.texts.size() - 1;
        } catch (Fault f) {
            fault = new int[] {f.what, f.place};
            return NONE;
        }
    }

    int fault(int what) {
        return fault == null || what < 0 || what > 1 ? NONE : fault[what];
    }

    boolean by(int text) {
        if (text < NONE || text >= s.texts.size()) {
            return false;
        }
        s.theText = text;
        return true;
    }

    int played(int text) {
        if (text < 0 || text >= s.texts.size()) {
            return -2;
        }
        List<Object[]> clauses = s.texts.get(text).clauses;
        for (int i = 0; i < clauses.size(); i++) {
            if (!play(clauses.get(i))) {
                return i;
            }
        }
        return NONE;
    }

    @SuppressWarnings("unchecked")
    boolean play(Object[] c) {
        switch ((String) c[0]) {
            case "word":
                return addWord(new Word((String) c[1], (int) c[2], (int) c[3], (int) c[4])) != NONE;
            case "say":
                return addSentence((List<Integer>) c[1]) != NONE;
            case "make":
                return made((int) c[1], (int) c[2], (int) c[3]);
            case "lose":
                return key((int) c[1]);
            case "turn":
                return turn((int) c[1]) != NONE;
            case "write":
                return write((int) c[1]) != NONE;
            case "week":
                for (int i = 0; i < (int) c[1]; i++) {
                    if (s.m.day == 9999) {
                        refuse(2, NONE);
                        return false;
                    }
                    day();
                }
                return true;
            default:
                return true;
        }
    }

    int addWord(Word w) {
        if (s.words.size() == 24) {
            return refuse(1, NONE);
        }
        s.words.add(w);
        return s.words.size() - 1;
    }

    int addSentence(List<Integer> senses) {
        if (s.sentences.size() == 8) {
            return refuse(1, NONE);
        }
        s.sentences.add(senses);
        return s.sentences.size() - 1;
    }

    int word(int kind, int sense, int stiff) {
        if (!tapeText().matches("[a-z]{1,9}") || kind < 0 || kind > 6 || sense < 0 || sense > 11 || stiff < 0 || stiff > 9) {
            return refuse(0, NONE);
        }
        int n = addWord(new Word(tapeText(), kind, sense, stiff));
        if (n != NONE) {
            tape.clear();
        }
        return n;
    }

    int turn(int word) {
        if (!isWord(word)) {
            return refuse(0, NONE);
        }
        if (s.words.size() == 24) {
            return refuse(1, NONE);
        }
        Word w = s.words.get(word);
        if (w.kind != 0 || w.letters.length() > 6) {
            return refuse(2, NONE);
        }
        return addWord(new Word("did" + w.letters, 2, w.sense, w.stiff));
    }

    int sense(int n, int a, int b, int c, int d, int e) {
        List<Integer> senses = List.of(a, b, c, d, e);
        if (n < 1 || n > 5 || senses.subList(0, n).stream().anyMatch(x -> x < 0 || x > 11)) {
            return refuse(0, NONE);
        }
        return addSentence(senses.subList(0, n));
    }

    boolean made(int letter, int of, int look) {
        if (!isKey(letter) || !isKey(of) || letter == of || look < 0 || look > 9) {
            refuse(0, NONE);
            return false;
        }
        s.of[letter] = of;
        s.look[letter] = look;
        return true;
    }

    boolean key(int letter) {
        if (!isKey(letter) || s.m.lost.contains(letter)) {
            refuse(isKey(letter) ? 2 : 0, NONE);
            return false;
        }
        step();
        s.m.lost.add(letter);
        return true;
    }

    int write(int n) {
        if (!isSentence(n)) {
            return refuse(0, NONE);
        }
        Said said = best(n);
        if (said == null) {
            return refuse(2, NONE);
        }
        step();
        written(n, said);
        return said.stiffness;
    }

    int week(int n) {
        if (n < 1 || n > 40) {
            return refuse(0, NONE);
        }
        if (s.m.day + n > 9999) {
            return refuse(2, NONE);
        }
        for (int i = 0; i < n; i++) {
            day();
        }
        return s.m.lost.size();
    }

    int undo() {
        if (s.steps.isEmpty()) {
            return NONE;
        }
        s.m = s.steps.remove(s.steps.size() - 1);
        return s.steps.size();
    }

    int told(int word, int what) {
        if (!isWord(word) || what < 0) {
            return NONE;
        }
        Word w = s.words.get(word);
        int[] all = {w.kind, w.sense, w.stiff, w.letters.length(), holes(w, s.m.lost), seconds(w, s.m.lost),
            can(w, s.m.lost) ? 1 : 0, extra(w, s.m.lost)};
        return what < 8 ? all[what] : what - 8 < w.letters.length() ? w.letters.charAt(what - 8) - 'a' : NONE;
    }

    int stiff(int word) {
        return isWord(word) ? stiffness(ruling(), s.words.get(word), s.m.lost) : NONE;
    }

    int least(int sentence, int what) {
        Said said = isSentence(sentence) ? best(sentence) : null;
        if (said == null || what < 0 || what > 2) {
            return NONE;
        }
        return what == 0 ? said.stiffness : what == 1 ? seconds(said) : length(said);
    }

    int sentence(int sentence, int place) {
        Said said = isSentence(sentence) ? best(sentence) : null;
        if (said == null || place < NONE || place >= said.words.size()) {
            return NONE;
        }
        return place == NONE ? said.words.size() : said.words.get(place);
    }

    int states(int sentence, int place, int word) {
        if (!isSentence(sentence) || !isWord(word) || place < 0 || place >= s.sentences.get(sentence).size()) {
            return NONE;
        }
        Said said = best(s.sentences.get(sentence).subList(0, place + 1), s.m.lost, word);
        return said == null ? NONE : said.stiffness;
    }

    int none() {
        return bits(IntStream.range(0, s.sentences.size()).filter(i -> best(i) == null));
    }

    int total(int... more) {
        TreeSet<Integer> lost = new TreeSet<>(s.m.lost);
        for (int k : more) {
            lost.add(k);
        }
        int total = 0;
        for (List<Integer> senses : s.sentences) {
            Said said = best(senses, lost, NONE);
            total += said == null ? 50 : said.stiffness;
        }
        return total;
    }

    List<Integer> left() {
        return IntStream.range(0, 26).filter(k -> !s.m.lost.contains(k)).boxed().toList();
    }

    int worst() {
        int best = NONE;
        int most = NONE;
        for (int k : left()) {
            int total = total(k);
            if (total > most) {
                most = total;
                best = k;
            }
        }
        return best;
    }

    int few(boolean second) {
        int most = NONE;
        int[] best = {NONE, NONE};
        for (int a : left()) {
            for (int b : left()) {
                if (a < b) {
                    int total = total(a, b);
                    if (total > most) {
                        most = total;
                        best = new int[] {a, b};
                    }
                }
            }
        }
        return best[second ? 1 : 0];
    }

    int[] nows() {
        int[] count = new int[26];
        for (int i = 0; i < s.sentences.size(); i++) {
            Said said = best(i);
            if (said != null) {
                press(said, count);
            }
        }
        return count;
    }

    List<Integer> order() {
        int[] now = nows();
        return left().stream().sorted(Comparator.comparingInt(k -> -now[k] * 100 + k)).toList();
    }

    int spare() {
        List<Integer> order = order();
        return order.isEmpty() || nows()[order.get(0)] == 0 ? NONE : order.get(0);
    }

    int now(int letter) {
        return isKey(letter) ? nows()[letter] : NONE;
    }

    int exact(int i) {
        List<Integer> order = order();
        return i < 0 || i >= order.size() ? NONE : order.get(i);
    }

    int longer() {
        int more = 0;
        for (int i = 0; i < s.sentences.size(); i++) {
            Said now = best(i);
            Said whole = best(s.sentences.get(i), new TreeSet<>(), NONE);
            if (now != null && whole != null) {
                more += length(now) - length(whole);
            }
        }
        return more;
    }

    int law() {
        return bits(IntStream.range(0, s.texts.size()).filter(t -> s.heard.stream()
                .allMatch(h -> stiffness(s.texts.get(t), s.words.get(h[0]), s.m.lost) == h[1])));
    }

    int stiffs(int word, int stiff) {
        if (word == NONE) {
            s.heard.clear();
            return 0;
        }
        if (!isWord(word) || stiff < 0 || stiff > 99 || s.heard.size() == 8) {
            return -2;
        }
        s.heard.add(new int[] {word, stiff});
        return s.heard.size();
    }

    /** Upper and lower, in lowest terms, behind 0, 1, .. lines. */
    List<long[]> odds() {
        List<long[]> odds = new ArrayList<>();
        long not = 1;
        long all = 1;
        odds.add(new long[] {0, 1});
        for (int i = 0; i < s.sentences.size(); i++) {
            Said said = best(i);
            if (said != null) {
                not *= 10 - noticeOdds(odds.size() - 1, said);
                all *= 10;
                long shared = java.math.BigInteger.valueOf(all - not).gcd(java.math.BigInteger.valueOf(all)).longValue();
                odds.add(new long[] {(all - not) / shared, all / shared});
            }
        }
        return odds;
    }

    long notices(int k, boolean low) {
        List<long[]> odds = odds();
        return k < 0 || k >= odds.size() ? NONE : odds.get(k)[low ? 1 : 0];
    }

    int lines(int p) {
        List<long[]> odds = odds();
        for (int k = 0; k < odds.size() && p >= 0 && p <= 100; k++) {
            if (odds.get(k)[0] * 100 >= p * odds.get(k)[1]) {
                return k;
            }
        }
        return NONE;
    }

    int held() {
        int best = NONE;
        int least = 99;
        for (int i = 0; i < s.sentences.size(); i++) {
            Said said = best(i);
            if (said != null && noticeOdds(0, said) < least) {
                least = noticeOdds(0, said);
                best = i;
            }
        }
        return best;
    }

    int page(int word) {
        if (word == NONE) {
            s.page.clear();
            return 0;
        }
        if (!isWord(word)) {
            return refuse(0, -2);
        }
        if (s.page.size() == 8) {
            return refuse(1, -2);
        }
        s.page.add(word);
        return s.page.size();
    }

    List<TreeSet<Integer>> sets() {
        List<TreeSet<Integer>> sets = new ArrayList<>();
        for (int a = 0; a < 26; a++) {
            for (int b = a; b < 26; b++) {
                TreeSet<Integer> set = new TreeSet<>(List.of(a));
                set.add(b);
                boolean may = s.page.stream().map(s.words::get).filter(w -> w.kind < 4)
                        .allMatch(w -> w.letters.chars().noneMatch(c -> set.contains(c - 'a')));
                if (may) {
                    sets.add(set);
                }
            }
        }
        return sets;
    }

    int wrote(int what) {
        List<TreeSet<Integer>> sets = sets();
        return switch (what) {
            case 0 -> sets.size();
            case 1 -> sets.isEmpty() ? 0 : bits(IntStream.range(0, 26).filter(k -> sets.stream().allMatch(x -> x.contains(k))));
            case 2 -> bits(IntStream.range(0, 26).filter(k -> sets.stream().noneMatch(x -> x.contains(k))));
            default -> NONE;
        };
    }

    int fewest() {
        TreeSet<Integer> some = new TreeSet<>();
        sets().forEach(some::addAll);
        int best = NONE;
        long most = 0;
        for (int i = 0; i < s.words.size(); i++) {
            Word w = s.words.get(i);
            long n = w.letters.chars().distinct().filter(c -> some.contains(c - 'a')).count();
            if (w.kind < 4 && n > most) {
                most = n;
                best = i;
            }
        }
        return best;
    }

    int letters(int letter) {
        if (!isKey(letter)) {
            return NONE;
        }
        TreeSet<Integer> seen = new TreeSet<>();
        int at = s.of[letter];
        while (at != NONE && seen.add(at)) {
            at = s.of[at];
        }
        seen.remove(letter);
        return bits(seen.stream().mapToInt(i -> i));
    }

    int lot(int word) {
        if (!isWord(word)) {
            return NONE;
        }
        List<Integer> may = s.words.get(word).letters.chars().map(c -> c - 'a').distinct().sorted()
                .filter(c -> s.m.lost.contains(c) && s.of[c] != NONE && !s.m.lost.contains(s.of[c])).boxed().toList();
        int least = may.stream().mapToInt(c -> s.look[c]).min().orElse(NONE);
        List<Integer> like = may.stream().filter(c -> s.look[c] == least).toList();
        return like.isEmpty() ? NONE : like.get(s.m.x % like.size());
    }

    int wire(int n) {
        Said said = isSentence(n) ? best(n) : null;
        return said == null ? NONE : pence(said);
    }

    int worth(int n) {
        return least(n, 1);
    }

    int line(int pence, boolean saved) {
        if (pence < 0 || pence > 999) {
            return NONE;
        }
        int[] best = {0, 0, 0};
        for (int set = 0; set < 1 << s.sentences.size(); set++) {
            int cost = 0;
            int worth = 0;
            for (int i = 0; i < 8; i++) {
                if ((set >> i & 1) != 0) {
                    Said said = best(i);
                    cost += said == null ? 5000 : pence(said);
                    worth += said == null ? 0 : seconds(said);
                }
            }
            if (cost <= pence && (worth > best[1] || worth == best[1] && cost < best[2])) {
                best = new int[] {set, worth, cost};
            }
        }
        return best[saved ? 1 : 0];
    }

    int all() {
        return 12 - Integer.bitCount(senses());
    }

    int senses() {
        return bits(IntStream.range(0, 12).filter(n -> s.words.stream().noneMatch(w -> w.sense == n && can(w, s.m.lost))));
    }

    int report() {
        if (!tapeText().matches("[-a-z]{1,9}")) {
            return refuse(0, NONE);
        }
        if (s.report.size() == 5) {
            return refuse(1, NONE);
        }
        s.report.add(tapeText());
        tape.clear();
        return s.report.size();
    }

    int clear() {
        s.report.clear();
        return 0;
    }

    int meant(int i) {
        if (i < 0 || i >= s.report.size()) {
            return NONE;
        }
        String pattern = s.report.get(i).replace('-', '.');
        return bits(IntStream.range(0, s.words.size()).filter(w -> s.words.get(w).letters.matches(pattern)));
    }

    int fits() {
        return bits(IntStream.range(0, s.sentences.size()).filter(n -> {
            List<Integer> senses = s.sentences.get(n);
            return senses.size() == s.report.size() && IntStream.range(0, senses.size()).allMatch(i ->
                    IntStream.range(0, s.words.size()).anyMatch(w ->
                            (meant(i) >> w & 1) != 0 && s.words.get(w).sense == senses.get(i)));
        }));
    }

    int is(int what) {
        return switch (what) {
            case 0 -> s.m.day;
            case 1 -> bits(s.m.lost.stream().mapToInt(i -> i));
            case 2 -> s.m.seconds;
            case 3 -> s.m.x;
            default -> -2;
        };
    }

    int use(int letter) {
        return isKey(letter) ? s.m.use[letter] : NONE;
    }

    int book(int i, int what) {
        if (i == NONE) {
            return s.m.book.size();
        }
        if (i < 0 || i >= s.m.book.size() || what < 0 || what > 3) {
            return -2;
        }
        Line line = s.m.book.get(i);
        return new int[] {line.day, line.which, line.what, line.howMuch}[what];
    }

    int image() {
        kept = s.copy();
        return s.m.day;
    }

    int restore() {
        s = kept.copy();
        return s.m.day;
    }

    int status(int reason) {
        return reason < 0 || reason > 2 ? -2 : status[reason];
    }

    int about(int what) {
        int[] all = {s.words.size(), s.sentences.size(), s.texts.size(), s.theText, s.steps.size(), s.page.size(),
            s.report.size(), s.heard.size(), tape.size()};
        return what < 0 || what > 8 ? -2 : all[what];
    }
}
