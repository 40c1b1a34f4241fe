/** What tests by hand share: one object, short ways to tell it things, and a count of the answers that aren't due. */
class Bench {
    /** Numbers that are of none of those that any call takes. */
    static final int[] FAR_OFF = {Integer.MIN_VALUE, -1000000, -77, 10000, 1000000, Integer.MAX_VALUE};

    static int wrong = 0;
    static String promise = "";
    static WithoutE x;

    static void due(String call, long got, long want) {
        if (got != want) {
            wrong++;
            System.out.println(promise + ": " + call + " answered " + got + ", due is " + want);
        }
    }

    static void due(String call, boolean got, boolean want) {
        due(call, got ? 1 : 0, want ? 1 : 0);
    }

    static void due(String call, String got, String want) {
        if (!got.equals(want)) {
            wrong++;
            System.out.println(promise + ": " + call + " is " + got + ", due is " + want);
        }
    }

    static void start(String name) {
        promise = name;
        x = new WithoutE();
    }

    static void finish(String allIsWell) {
        System.out.println(wrong == 0 ? allIsWell : wrong + " answers are not as due");
        if (wrong != 0) {
            System.exit(1);
        }
    }

    static int four(String text, int at) {
        int four = 0;
        for (int i = at; i < at + 4; i++) {
            four = four << 8 | (i < text.length() ? text.charAt(i) : 0);
        }
        return four;
    }

    static void tape(String text) {
        x.end(0);
        for (int i = 0; i < text.length(); i += 20) {
            x.feed(four(text, i), four(text, i + 4), four(text, i + 8), four(text, i + 12), four(text, i + 16));
        }
        due("end", x.end(text.length()), text.length());
    }

    static int word(String letters, int kind, int sense, int stiff) {
        tape(letters);
        return x.word(kind, sense, stiff);
    }

    static void words(int n) {
        for (int i = 0; i < n; i++) {
            word("a", 0, 0, 0);
        }
    }

    static int say(int... senses) {
        int[] five = new int[5];
        System.arraycopy(senses, 0, five, 0, senses.length);
        return x.sense(senses.length, five[0], five[1], five[2], five[3], five[4]);
    }

    static int report(String bytes) {
        tape(bytes);
        return x.report();
    }

    static int text(String source) {
        tape(source);
        return x.text();
    }

    static void rule(String source) {
        int n = text(source);
        due("text " + source, n >= 0, true);
        due("by", x.by(n), true);
    }

    static void faulty(String source, int fault, int place) {
        due("text " + source, text(source), -1);
        due("fault(0) of " + source, x.fault(0), fault);
        due("fault(1) of " + source, x.fault(1), place);
    }

    /** On an object of its own, as there is room for few texts. */
    static void good(String source) {
        WithoutE old = x;
        x = new WithoutE();
        due("text " + source, text(source), 0);
        due("fault(0) of " + source, x.fault(0), 0);
        due("fault(1) of " + source, x.fault(1), -1);
        x = old;
    }

    static void lose(String letters) {
        for (char c : letters.toCharArray()) {
            due("key " + c, x.key(c - 'a'), true);
        }
    }

    static int bits(String letters) {
        int bits = 0;
        for (char c : letters.toCharArray()) {
            bits |= 1 << c - 'a';
        }
        return bits;
    }

    static String times(int n, String text) {
        return text.repeat(n);
    }

    /** Lets days pass by a script of 960 days, then by hand. The text stays, and rules if none does. */
    static void goToDay(int day) {
        int script = text("wears 0;" + times(23, "week 40;"));
        if (x.about(3) == -1) {
            x.by(script);
        }
        for (int i = 0; i < 11 && day - x.is(0) >= 920; i++) {
            due("played", x.played(script), -1);
        }
        for (int i = 0; i < 23 && x.is(0) < day; i++) {
            x.week(Math.min(40, day - x.is(0)));
        }
        due("day", x.is(0), day);
    }

    /** All that can be asked of what is told and done, but STATUS, the tape and the latest FAULT. */
    static String state() {
        StringBuilder all = new StringBuilder();
        for (int i = 0; i < 8; i++) {
            all.append(x.about(i)).append(' ');
        }
        for (int i = 0; i < 4; i++) {
            all.append(x.is(i)).append(' ');
        }
        for (int i = 0; i < 26; i++) {
            all.append(x.use(i)).append('/').append(x.letters(i)).append('/').append(x.now(i)).append(' ');
        }
        for (int i = 0; i < x.book(-1, 0); i++) {
            for (int what = 0; what < 4; what++) {
                all.append(x.book(i, what)).append(',');
            }
        }
        for (int word = 0; word < x.about(0); word++) {
            all.append(x.stiff(word)).append(':').append(x.lot(word)).append(':');
            for (int what = 0; what < 17; what++) {
                all.append(x.told(word, what)).append(' ');
            }
        }
        for (int s = 0; s < x.about(1); s++) {
            for (int what = 0; what < 3; what++) {
                all.append(x.least(s, what)).append(' ');
            }
            for (int place = -1; place < 5; place++) {
                all.append(x.sentence(s, place)).append('/').append(x.states(s, place, 0)).append(' ');
            }
            all.append(x.wire(s)).append('/').append(x.worth(s)).append(' ');
        }
        for (int i = 0; i < x.about(6); i++) {
            all.append(x.meant(i)).append(' ');
        }
        for (int k = 0; k <= 8; k++) {
            all.append(x.notices(k, false)).append('/').append(x.notices(k, true)).append(' ');
        }
        long[] others = {x.law(), x.wrote(0), x.wrote(1), x.wrote(2), x.fewest(), x.fits(), x.none(), x.worst(),
            x.few(false), x.few(true), x.spare(), x.exact(0), x.longer(), x.lines(1), x.lines(50), x.held(),
            x.line(7, false), x.line(999, false), x.line(999, true), x.all(), x.senses()};
        return all.append(java.util.Arrays.toString(others)).toString();
    }

    static int refusals() {
        return x.status(0) * 10000 + x.status(1) * 100 + x.status(2);
    }
}
