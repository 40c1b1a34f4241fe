import java.lang.reflect.InvocationTargetException;
import java.lang.reflect.Method;
import java.util.ArrayList;
import java.util.HashMap;
import java.util.List;
import java.util.Map;
import java.util.Random;

/** Runs of calls drawn by fixed seeds, each answer held against the naive model's. */
public final class ModelTest {
    private static final Map<String, Method> OURS = methods(WithoutE.class);
    private static final Map<String, Method> MODELS = methods(Model.class);
    private static int wrong = 0;

    private final Random random;
    private final int seed;
    private final WithoutE x = new WithoutE();
    private final Model model = new Model();
    private final List<String> log = new ArrayList<>();
    private final int senses;
    private final String alphabet;
    private boolean broken = false;

    private ModelTest(int seed) {
        this.seed = seed;
        random = new Random(seed);
        senses = 2 + random.nextInt(11);
        alphabet = random.nextBoolean() ? "abcdefghijklmnopqrstuvwxyz" : "aeinstd";
    }

    private static Map<String, Method> methods(Class<?> type) {
        Map<String, Method> found = new HashMap<>();
        for (Method m : type.getDeclaredMethods()) {
            if (!m.isSynthetic() && !m.getName().startsWith("lambda")) {
                m.setAccessible(true);
                found.put(m.getName() + m.getParameterCount(), m);
            }
        }
        return found;
    }

    public static void main(String[] args) {
        int from = args.length > 0 ? Integer.parseInt(args[0]) : 1;
        int to = args.length > 1 ? Integer.parseInt(args[1]) : 120;
        for (int seed = from; seed <= to && wrong < 5; seed++) {
            new ModelTest(seed).run();
            new ModelTest(seed).runLaws();
        }
        System.out.println(wrong == 0 ? "all runs are as the model has them" : wrong + " runs are not");
        if (wrong != 0) {
            System.exit(1);
        }
    }

    private static long number(Object o) {
        return o instanceof Boolean b ? (b ? 1 : 0) : ((Number) o).longValue();
    }

    private long call(String name, Object... args) {
        if (broken || log.size() >= 512) {
            return -99;
        }
        try {
            long got = number(OURS.get(name + args.length).invoke(x, args));
            long want = number(MODELS.get(name + args.length).invoke(model, args));
            log.add(name + java.util.Arrays.toString(args) + " = " + got);
            if (got != want) {
                broken = true;
                wrong++;
                System.out.println("seed " + seed + ": call " + log.size() + " " + name
                        + java.util.Arrays.toString(args) + " answered " + got + ", due is " + want);
                for (String line : log) {
                    System.out.println("    " + line);
                }
            }
            return got;
        } catch (IllegalAccessException | InvocationTargetException e) {
            broken = true;
            wrong++;
            e.printStackTrace(System.out);
            return -99;
        }
    }

    private void feed(String text) {
        call("end", 0);
        for (int at = 0; at < text.length(); at += 20) {
            Object[] five = new Object[5];
            for (int i = 0; i < 5; i++) {
                int four = 0;
                for (int j = 0; j < 4; j++) {
                    int p = at + i * 4 + j;
                    four = four << 8 | (p < text.length() ? text.charAt(p) & 255 : 0);
                }
                five[i] = four;
            }
            call("feed", five);
        }
        call("end", text.length());
    }

    private int upTo(int n) {
        return random.nextInt(n);
    }

    private boolean oneIn(int n) {
        return random.nextInt(n) == 0;
    }

    /** Mostly below n, at times just outside or far off. */
    private int near(int n) {
        if (oneIn(25)) {
            return List.of(-1, -2, n, n + 1, Integer.MAX_VALUE, Integer.MIN_VALUE).get(upTo(6));
        }
        return upTo(Math.max(1, n));
    }

    private String letters(int most) {
        StringBuilder b = new StringBuilder();
        int length = 1 + upTo(most);
        for (int i = 0; i < length; i++) {
            b.append(alphabet.charAt(upTo(alphabet.length())));
        }
        return b.toString();
    }

    private char letter() {
        return alphabet.charAt(upTo(alphabet.length()));
    }

    // ---- texts

    private String blank() {
        return oneIn(8) ? "\n" : oneIn(4) ? "" : " ";
    }

    private String sum(int law, int depth) {
        StringBuilder b = new StringBuilder(product(law, depth));
        while (oneIn(3)) {
            b.append(oneIn(2) ? "+" : "-").append(product(law, depth));
        }
        return b.toString();
    }

    private String product(int law, int depth) {
        StringBuilder b = new StringBuilder(one(law, depth));
        while (oneIn(4)) {
            b.append(oneIn(2) ? "*" : "/").append(one(law, depth));
        }
        return b.toString();
    }

    private String one(int law, int depth) {
        String[][] names = {{"day", "lost", "kind", "told", "long", "holes", "extra", "told", "extra"},
            {"day", "lost", "letter", "use", "use"}, {"day", "lost", "line", "total", "seconds", "total"}};
        int what = depth <= 0 ? upTo(6) : upTo(14);
        switch (what) {
            case 0, 1:
                return "" + (oneIn(5) ? upTo(10000) : upTo(12));
            case 2, 3, 4, 5, 6:
                String[] own = names[oneIn(60) ? upTo(3) : law];
                return " " + own[upTo(own.length)] + " ";
            case 7, 8:
                return "(" + sum(law, depth - 1) + ")";
            case 9:
                return "-" + one(law, depth - 1);
            case 10, 11:
                return " uses " + one(law, depth - 1);
            default:
                return " if " + either(law, depth - 1) + " then " + sum(law, depth - 1) + " else "
                        + sum(law, depth - 1) + " end ";
        }
    }

    private String either(int law, int depth) {
        return both(law, depth) + (oneIn(3) ? " or " + both(law, depth) : "");
    }

    private String both(int law, int depth) {
        return ask(law, depth) + (oneIn(3) ? " and " + ask(law, depth) : "");
    }

    private String ask(int law, int depth) {
        if (oneIn(4)) {
            return " not " + ask(law, depth - 1);
        }
        return sum(law, depth) + List.of("<", "<=", ">", ">=", "=", "#").get(upTo(6)) + sum(law, depth);
    }

    private String clause() {
        switch (upTo(15)) {
            case 0, 1:
                return "stiff " + sum(0, 3) + ";";
            case 2:
                return "wears " + sum(1, 3) + ";";
            case 3:
                return "notices " + sum(2, 3) + ";";
            case 4, 5, 6:
                return "word " + letters(9) + " kind " + upTo(7) + " sense " + upTo(senses) + " stiff" + blank() + upTo(10) + ";";
            case 7, 8:
                StringBuilder b = new StringBuilder("say " + upTo(senses));
                while (oneIn(2)) {
                    b.append(",").append(blank()).append(upTo(senses));
                }
                return b + ";";
            case 9:
                return "make " + letter() + " of " + letter() + " look " + upTo(10) + ";";
            case 10:
                return "lose " + letter() + ";";
            case 11:
                return "turn " + upTo(24) + ";";
            case 12, 13:
                return "write " + upTo(8) + ";";
            default:
                return "week " + (1 + upTo(oneIn(5) ? 40 : 5)) + ";";
        }
    }

    private String text() {
        StringBuilder b = new StringBuilder();
        int clauses = oneIn(10) ? 26 : upTo(9);
        for (int i = 0; i < clauses; i++) {
            String more = oneIn(10) || clauses == 26 ? "lose " + letter() + ";" : clause();
            if (b.length() + more.length() <= 300) {
                b.append(more).append(blank());
            }
        }
        if (b.length() > 0 && oneIn(3)) {
            spoil(b);
        }
        b.setLength(Math.min(300, b.length()));
        return b.toString();
    }

    private void spoil(StringBuilder b) {
        String[] bits = {"(", ")", ";", ",", "10000", "stiff", "if", "then", "end", "A", "?", "\0", "\u00ff", "<=", "--", "((((((((",
            "not not not not not not not not not", "uses", "use", "of", "12", "word", " ", "\t"};
        int at = upTo(b.length());
        switch (upTo(3)) {
            case 0:
                b.insert(at, bits[upTo(bits.length)]);
                break;
            case 1:
                b.deleteCharAt(at);
                break;
            default:
                b.setLength(at);
                break;
        }
    }

    // ---- runs

    private void run() {
        int about = seed % 4;
        if (about != 0) {
            tellMuch();
        }
        for (int i = 0; i < 8 && seed % 3 != 0 && model.s.theText == -1; i++) {
            feed(text());
            call("by", (int) call("text"));
        }
        while (log.size() < 512 && !broken) {
            if (oneIn(3)) {
                change(about);
            } else {
                ask();
            }
        }
    }

    /** As many laws as there are calls for: each is read, rules, is asked and goes with the image. */
    private void runLaws() {
        tellMuch();
        while (log.size() < 512 && !broken) {
            int law = upTo(3);
            String sum = oneIn(3) ? sum(law, 2) : upTo(20) + "+" + upTo(4) + "*if " + manyAsks() + " then 1 else 2 end*2";
            feed(List.of("stiff ", "wears ", "notices ").get(law) + sum + ";");
            call("by", (int) call("text"));
            for (int word = 0; word < 3 && law == 0; word++) {
                call("stiff", near(model.s.words.size()));
            }
            call("week", 1 + upTo(9));
            call("notices", 1, true);
            if (oneIn(2)) {
                call("worst");
            }
            if (model.s.texts.size() == 4 || oneIn(2)) {
                call("restore");
            }
        }
    }

    private String manyAsks() {
        StringBuilder b = new StringBuilder(smallAsk());
        for (int more = upTo(5); more > 0; more--) {
            b.append(oneIn(2) ? " or " : " and ").append(smallAsk());
        }
        return b.toString();
    }

    /** As often true as not. */
    private String smallAsk() {
        String ask = upTo(3) + List.of("<", "<=", ">", ">=", "=", "#").get(upTo(6)) + upTo(3);
        return oneIn(4) ? "not " + ask : ask;
    }

    private void tellMuch() {
        int words = upTo(20);
        for (int i = 0; i < words; i++) {
            feed(letters(9));
            call("word", upTo(7), upTo(senses), upTo(10));
        }
        int sentences = upTo(9);
        for (int i = 0; i < sentences; i++) {
            int first = upTo(senses);
            int second = oneIn(2) ? first : upTo(senses);
            int third = oneIn(2) ? second : upTo(senses);
            call("sense", 1 + upTo(5), first, second, third, upTo(senses), upTo(senses));
        }
        for (int i = upTo(6); i > 0; i--) {
            call("made", letter() - 'a', letter() - 'a', upTo(4));
        }
        for (int i = upTo(4); i > 0; i--) {
            call("key", letter() - 'a');
        }
        call("image");
    }

    private void change(int about) {
        switch (upTo(22)) {
            case 0, 1:
                feed(letters(9));
                call("word", near(7), near(senses), near(10));
                break;
            case 2:
                call("turn", near(model.s.words.size()));
                break;
            case 3:
                call("sense", 1 + near(5), near(senses), near(12), near(12), near(12), near(12));
                break;
            case 4, 5:
                call("made", letter() - 'a', near(26), near(10));
                break;
            case 6, 7:
                call("key", about == 1 ? near(26) : letter() - 'a');
                break;
            case 8, 9, 10:
                call("write", near(model.s.sentences.size()));
                break;
            case 11, 12:
                call("week", 1 + near(oneIn(5) ? 40 : 7));
                break;
            case 13, 14:
                call("undo");
                break;
            case 15:
                call("page", oneIn(5) ? -1 : near(model.s.words.size()));
                break;
            case 16:
                sendReport();
                break;
            case 17:
                call("stiffs", oneIn(4) ? -1 : near(model.s.words.size()), near(20));
                break;
            case 18, 19:
                feed(text());
                call("text");
                call("fault", 0);
                call("fault", 1);
                if (oneIn(2)) {
                    call("by", model.s.texts.size() - 1);
                }
                break;
            case 20:
                call("by", near(4));
                call("played", near(4));
                break;
            default:
                call(oneIn(3) ? "image" : oneIn(3) ? "restore" : "undo");
                break;
        }
    }

    private void sendReport() {
        if (oneIn(5)) {
            call("clear");
            return;
        }
        StringBuilder b = new StringBuilder(model.s.words.isEmpty() ? letters(9)
                : model.s.words.get(upTo(model.s.words.size())).letters());
        while (oneIn(2)) {
            b.setCharAt(upTo(b.length()), oneIn(20) ? 'Q' : '-');
        }
        feed(b.toString());
        call("report");
        call("fits");
    }

    private void askStates(int sentence, int place) {
        for (int word = -1; word <= model.s.words.size(); word++) {
            boolean known = sentence >= 0 && sentence < model.s.sentences.size() && place >= 0
                    && place < model.s.sentences.get(sentence).size() && word >= 0 && word < model.s.words.size();
            if (oneIn(8) || known && model.s.words.get(word).sense() == model.s.sentences.get(sentence).get(place)) {
                call("states", sentence, place, word);
            }
        }
    }

    private void ask() {
        int words = model.s.words.size();
        int sentences = model.s.sentences.size();
        switch (upTo(36)) {
            case 0, 1 -> call("told", near(words), near(17));
            case 2, 3 -> call("stiff", near(words));
            case 4, 5, 6 -> call("least", near(sentences), near(3));
            case 7, 8 -> call("sentence", near(sentences), near(6) - 1);
            case 9, 10 -> askStates(near(sentences), near(5));
            case 11 -> call("none");
            case 12 -> call(oneIn(6) ? "worst" : "senses");
            case 13 -> {
                if (oneIn(50)) {
                    call("few", random.nextBoolean());
                } else {
                    call("all");
                }
            }
            case 14 -> call("spare");
            case 15 -> call("now", near(26));
            case 16 -> call("exact", near(26));
            case 17 -> call("longer");
            case 18 -> call("law");
            case 19, 20 -> call("notices", near(9), random.nextBoolean());
            case 21 -> call("lines", near(101));
            case 22 -> call("held");
            case 23 -> call("wrote", near(3));
            case 24 -> call("fewest");
            case 25 -> call("letters", near(26));
            case 26, 27 -> call("lot", near(words));
            case 28 -> call("wire", near(sentences));
            case 29 -> call("worth", near(sentences));
            case 30 -> {
                if (oneIn(4)) {
                    call("line", near(oneIn(4) ? 1000 : 30), random.nextBoolean());
                } else {
                    call("meant", near(5));
                }
            }
            case 31 -> call("is", near(4));
            case 32 -> call("use", near(26));
            case 33 -> call("book", near(31) - 1, near(4));
            case 34 -> call("status", near(3));
            default -> call("about", near(9));
        }
    }
}
