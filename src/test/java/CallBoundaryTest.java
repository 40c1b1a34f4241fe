/** The boundaries that the promises 1 to 53 themselves name, each promise with tests of its own. */
public final class CallBoundaryTest extends Bench {
    private static final boolean[] HAS_ONE = new boolean[54];

    public static void main(String[] args) {
        newObject();
        feed();
        end();
        endAlone();
        text();
        textOfFour();
        fault();
        by();
        played();
        word();
        wordStays();
        turn();
        sense();
        made();
        key();
        write();
        week();
        undo();
        told();
        stiff();
        least();
        sentence();
        states();
        none();
        worst();
        few();
        spare();
        now();
        exact();
        longer();
        law();
        stiffs();
        notices();
        lines();
        held();
        page();
        wrote();
        fewest();
        letters();
        lot();
        wire();
        worth();
        line();
        all();
        senses();
        report();
        clear();
        meant();
        fits();
        is();
        use();
        book();
        image();
        restore();
        status();
        about();
        farOff();
        farOffChangesNothing();
        for (int i = 1; i < HAS_ONE.length; i++) {
            due("promise " + i + " has a test", HAS_ONE[i], true);
        }
        finish("the boundaries of the promises hold");
    }

    private static void start(int number, String sentence) {
        HAS_ONE[number] = true;
        start("Promise " + number + ": " + sentence);
    }

    private static void newObject() {
        start(1, "Nothing is told; THE IMAGE is this");
        String fresh = state();
        for (int what = 0; what < 9; what++) {
            due("about " + what, x.about(what), what == 3 ? -1 : 0);
        }
        due("refused", refusals(), 0);
        due("restore", x.restore(), 0);
        due("as new", state(), fresh);
        word("sun", 0, 0, 0);
        say(0);
        x.made(0, 1, 2);
        x.page(0);
        x.stiffs(0, 0);
        report("s-n");
        rule("wears 10;");
        x.week(40);
        due("restore", x.restore(), 0);
        due("as new", state(), fresh);
        due("no step is left", x.undo(), -1);
        due("another object is new as well", new WithoutE().about(0), 0);
    }

    private static void feed() {
        start(2, "NONE, and none come, if there would be more than 300");
        for (int n = 20; n <= 300; n += 20) {
            due("feed", x.feed(-1, 0, -1, 0, -1), n);
        }
        due("320", x.feed(0, 0, 0, 0, 0), -1);
        due("none come", x.about(8), 300);
        for (int n = 279; n <= 282; n++) {
            x.end(0);
            for (int i = 0; i < 15; i++) {
                x.feed(0, 0, 0, 0, 0);
            }
            x.end(n);
            due("feed behind " + n, x.feed(0, 0, 0, 0, 0), n <= 280 ? n + 20 : -1);
            due("tape", x.about(8), n <= 280 ? n + 20 : n);
        }
        start(2, "Twenty bytes come behind the tape, the highest of a first");
        x.feed(0x7a000000, 0, 0, 0, 0);
        x.end(1);
        x.feed(0x79786100, 0, 0, 0, 0);
        x.end(4);
        due("word", x.word(0, 0, 0), 0);
        due("z y x a", x.told(0, 8) * 1000000 + x.told(0, 9) * 10000 + x.told(0, 10) * 100 + x.told(0, 11), 25242300);
        x.feed(0x61616161, 0x61616161, 0xe1616161, 0, 0);
        x.end(9);
        due("a byte above 127 is no letter", x.word(0, 0, 0), -1);
        x.end(8);
        due("word", x.word(0, 0, 0), 1);
    }

    private static void end() {
        start(3, "NONE, and nothing is done, if it has not so many, or n is below 0");
        due("0 of none", x.end(0), 0);
        due("1 of none", x.end(1), -1);
        x.feed(0x61626364, 0, 0, 0, 0);
        due("21 of 20", x.end(21), -1);
        due("tape", x.about(8), 20);
        due("-1", x.end(-1), -1);
        due("tape", x.about(8), 20);
        due("20 of 20", x.end(20), 20);
        due("4 of 20", x.end(4), 4);
        due("5 of 4", x.end(5), -1);
        due("word", x.word(0, 0, 0), 0);
        due("the first four", x.told(0, 8) + x.told(0, 11), 3);
        for (int n : FAR_OFF) {
            due("end " + n, x.end(n), -1);
        }
    }

    private static void endAlone() {
        start(3, "The tape has its first n bytes alone");
        String[] sources = {"lose ab;", "stiff if 1<=2", "stiff 12345;", "lose  ;", "stiffs 1;", "lose a;;"};
        int[][] want = {{6, 1, 6}, {11, 1, 11}, {10, 1, 10}, {5, 1, 5}, {5, 1, 5}, {7, 0, -1}};
        for (int i = 0; i < sources.length; i++) {
            x = new WithoutE();
            tape(sources[i]);
            x.end(want[i][0]);
            x.text();
            due("fault of " + sources[i], x.fault(0), want[i][1]);
            due("its place", x.fault(1), want[i][2]);
        }
        start(3, "The tape has its first n bytes alone: a word, a report");
        tape("abcdefghijk");
        x.end(9);
        due("word", x.word(0, 0, 0), 0);
        tape("ab-");
        x.end(2);
        due("word", x.word(0, 0, 0), 1);
        due("two letters", x.told(1, 3), 2);
        tape("ab-");
        x.end(2);
        x.report();
        due("report", x.meant(0), 2);
        start(3, "The tape has its first n bytes alone: more come behind these");
        tape("abcdef");
        x.end(1);
        x.feed(0x78000000, 0, 0, 0, 0);
        x.end(2);
        due("word", x.word(0, 0, 0), 0);
        due("a x", x.told(0, 8) * 100 + x.told(0, 9), 23);
    }

    private static void text() {
        start(4, "The tape (empty then) is a TEXT: its number. NONE: it has a FAULT");
        due("an empty tape", x.text(), 0);
        due("text", text("lose a;"), 1);
        due("the tape is empty", x.about(8), 0);
        due("a fault", text("lose ab;"), -1);
        due("the tape is empty", x.about(8), 0);
        due("texts", x.about(2), 2);
        due("the next has its number", text("lose b;"), 2);
        x.played(2);
        due("it is another one", x.is(1), 2);
    }

    private static void textOfFour() {
        start(4, "NONE: (the tape stays) there are 4");
        for (int i = 0; i < 3; i++) {
            text("lose " + (char) ('a' + i) + ";");
        }
        due("a fault with 3", text("lose 5;"), -1);
        due("fault", x.fault(0), 1);
        due("the 4th", text("lose d;"), 3);
        due("the 5th", text("lose e;"), -1);
        due("the tape stays", x.about(8), 7);
        due("again", x.text(), -1);
        due("the tape stays", x.about(8), 7);
        due("a faulty 5th", text("lose 55;"), -1);
        due("the tape stays", x.about(8), 8);
        due("it wasn't read", x.fault(0), 0);
        x.restore();
        due("there are none again", x.text(), -1);
        due("it is read", x.fault(0) * 10 + x.fault(1), 15);
        due("and is gone", x.about(8), 0);
    }

    private static void fault() {
        start(5, "NONE for others, and ahead of any");
        due("0", x.fault(0), -1);
        due("1", x.fault(1), -1);
        text("lose ab;");
        due("-1", x.fault(-1), -1);
        due("0", x.fault(0), 7);
        due("1", x.fault(1), 5);
        due("2", x.fault(2), -1);
        start(5, "0 its FAULT (0 without), 1 its place (NONE without)");
        text("lose a;");
        due("0", x.fault(0), 0);
        due("1", x.fault(1), -1);
        text("?");
        due("0", x.fault(0), 1);
        due("the first place", x.fault(1), 0);
    }

    private static void by() {
        start(6, "THE TEXT (NONE: none): true. False for others");
        due("-2", x.by(-2), false);
        due("-1", x.by(-1), true);
        due("0", x.by(0), false);
        text("");
        due("0", x.by(0), true);
        due("1", x.by(1), false);
        due("it stays", x.about(3), 0);
        due("-2", x.by(-2), false);
        due("it stays", x.about(3), 0);
        text("");
        text("");
        text("");
        due("3", x.by(3), true);
        due("4", x.by(4), false);
        due("it stays", x.about(3), 3);
        due("-1", x.by(-1), true);
        due("none", x.about(3), -1);
    }

    private static void played() {
        start(7, "NONE: all is done; else the number of the CLAUSE that can't be. -2 for others");
        due("-2", x.played(-2), -2);
        due("-1", x.played(-1), -2);
        due("0", x.played(0), -2);
        text("lose a;");
        due("all", x.played(0), -1);
        due("the first", x.played(0), 0);
        due("1", x.played(1), -2);
        text(times(23, "week 1;") + "lose a;");
        due("the last of 24", x.played(1), 23);
        due("day", x.is(0), 23);
        due("4", x.played(4), -2);
    }

    private static void word() {
        start(8, "The tape (1 .. 9 bytes a .. z; empty then) is a WORD: its number");
        due("a", word("a", 0, 0, 0), 0);
        due("the tape is empty", x.about(8), 0);
        due("nothing is left", x.word(0, 0, 0), -1);
        due("z", word("zzzzzzzzz", 0, 0, 0), 1);
        for (char c : new char[] {'`', '{', 'A', 'Z', '0', '9', '-', ' ', 10, 0, 255}) {
            due("alone " + (int) c, word("" + c, 0, 0, 0), -1);
            due("the first " + (int) c, word(c + "aa", 0, 0, 0), -1);
            due("the last " + (int) c, word("aaaaaaaa" + c, 0, 0, 0), -1);
        }
        due("words", x.about(0), 2);
        due("refused", refusals(), 340000);
    }

    private static void wordStays() {
        start(8, "NONE, and the tape stays, for others, or if there are 24");
        due("kind 7", word("a", 7, 0, 0), -1);
        due("the tape stays", x.about(8), 1);
        due("sense 12", x.word(0, 12, 0), -1);
        due("stiff 10", x.word(0, 0, 10), -1);
        due("the tape stays", x.about(8), 1);
        due("word", x.word(6, 11, 9), 0);
        due("10 bytes", word("aaaaaaaaaa", 0, 0, 0), -1);
        due("the tape stays", x.about(8), 10);
        x.end(9);
        due("9 bytes", x.word(0, 0, 0), 1);
        words(21);
        due("the 24th", word("a", 0, 0, 0), 23);
        due("the 25th", word("b", 0, 0, 0), -1);
        due("the tape stays", x.about(8), 1);
        x.restore();
        due("it is told now", x.word(0, 0, 0), 0);
        due("b", x.told(0, 8), 1);
    }

    private static void turn() {
        start(9, "NONE for others, if there are 24, or if it can't be");
        due("none is told", x.turn(0), -1);
        words(22);
        due("-1", x.turn(-1), -1);
        due("22", x.turn(22), -1);
        due("refused", refusals(), 30000);
        due("21", x.turn(21), 22);
        due("a turned one can't be", x.turn(22), -1);
        due("refused", refusals(), 30001);
        due("0", x.turn(0), 23);
        due("there are 24", x.turn(0), -1);
        due("refused", refusals(), 30101);
        due("words", x.about(0), 24);
    }

    private static void sense() {
        start(10, "A SENTENCE of n (1 .. 5) SENSES, the first n: its number. NONE for others, or if there are 8");
        due("n 0", x.sense(0, 1, 1, 1, 1, 1), -1);
        due("n 6", x.sense(6, 1, 1, 1, 1, 1), -1);
        due("n -1", x.sense(-1, 1, 1, 1, 1, 1), -1);
        for (int n = 1; n <= 5; n++) {
            int[] five = {0, 0, 0, 0, 0};
            five[n - 1] = 12;
            due("the n-th is 12", x.sense(n, five[0], five[1], five[2], five[3], five[4]), -1);
            five[n - 1] = -1;
            due("the n-th is -1", x.sense(n, five[0], five[1], five[2], five[3], five[4]), -1);
            five[n - 1] = 11;
            if (n < 5) {
                five[n] = 12;
            }
            due("the one behind is 12", x.sense(n, five[0], five[1], five[2], five[3], five[4]), n - 1);
        }
        due("refused", refusals(), 130000);
        say(0);
        say(0);
        due("the 8th", say(0), 7);
        due("the 9th", say(0), -1);
        due("refused", refusals(), 130100);
    }

    private static void made() {
        start(11, "MADE of another letter: true. False for others (unlike ones)");
        due("0 of 25", x.made(0, 25, 0), true);
        due("25 of 0", x.made(25, 0, 9), true);
        due("0 of 0", x.made(0, 0, 0), false);
        due("25 of 25", x.made(25, 25, 0), false);
        due("26 of 26", x.made(26, 26, 0), false);
        due("-1 of 0", x.made(-1, 0, 0), false);
        due("0 of 26", x.made(0, 26, 0), false);
        due("look -1", x.made(0, 1, -1), false);
        due("look 10", x.made(0, 1, 10), false);
        due("refused", refusals(), 70000);
        due("it stays", x.letters(0), 1 << 25);
    }

    private static void key() {
        start(12, "A KEY is LOST: true. False for others, or if it is");
        due("-1", x.key(-1), false);
        due("26", x.key(26), false);
        due("0", x.key(0), true);
        due("0 again", x.key(0), false);
        due("25", x.key(25), true);
        due("refused", refusals(), 20001);
        due("steps", x.about(4), 2);
        x.undo();
        due("25 anew", x.key(25), true);
    }

    private static void write() {
        start(13, "WRITTEN: its STIFFNESS. NONE for others, or if it can't be");
        due("none is told", x.write(0), -1);
        word("a", 0, 0, 9);
        say(0, 0, 0, 0, 0);
        due("-1", x.write(-1), -1);
        due("1", x.write(1), -1);
        due("0", x.write(0), 57);
        lose("a");
        due("it can't be", x.write(0), -1);
        due("refused", refusals(), 30001);
        due("lines", x.book(-1, 0), 1);
        due("steps", x.about(4), 2);
        x.restore();
        word("a", 0, 0, 0);
        for (int i = 0; i < 8; i++) {
            say(0);
        }
        due("7", x.write(7), 0);
        due("8", x.write(8), -1);
    }

    private static void week() {
        start(14, "DAYS pass (1 .. 40): how many KEYS are LOST then, in all");
        due("0", x.week(0), -1);
        due("41", x.week(41), -1);
        due("nothing is done", x.is(0) + x.about(4), 0);
        due("refused", refusals(), 20000);
        due("1", x.week(1), 0);
        lose("abc");
        due("40", x.week(40), 3);
        due("day", x.is(0), 41);
        start(14, "NONE for others, or beyond 9999 (nothing is done then)");
        goToDay(9959);
        String ahead = state();
        due("-1", x.week(-1), -1);
        due("41", x.week(41), -1);
        due("nothing is done", state(), ahead);
        due("up to 9999", x.week(40), 0);
        due("beyond", x.week(1), -1);
        due("day", x.is(0), 9999);
        x.undo();
        due("beyond by one", x.week(2), -1);
        due("day", x.is(0), 9998);
        due("up to it", x.week(1), 0);
        due("refused", refusals(), 20002);
    }

    private static void undo() {
        start(15, "The latest STEP is taken back: how many can be yet. NONE: there is none");
        due("none", x.undo(), -1);
        lose("ab");
        due("one yet", x.undo(), 1);
        due("a", x.is(1), 1);
        due("none yet", x.undo(), 0);
        due("none", x.undo(), -1);
        due("none", x.undo(), -1);
        x.week(40);
        due("29 yet", x.undo(), 29);
        x.week(1);
        due("29 yet", x.undo(), 29);
        x.week(2);
        due("29 yet", x.undo(), 29);
        due("day", x.is(0), 40);
    }

    private static void told() {
        start(16, "8 on: its letters, from the first on (0 .. 25). NONE for others");
        due("none is told", x.told(0, 0), -1);
        word("z", 0, 0, 0);
        word("abcdefghz", 0, 0, 0);
        due("-1", x.told(0, -1), -1);
        due("the first", x.told(0, 8), 25);
        due("no second", x.told(0, 9), -1);
        due("the ninth", x.told(1, 16), 25);
        due("no tenth", x.told(1, 17), -1);
        due("word -1", x.told(-1, 0), -1);
        due("word 2", x.told(2, 0), -1);
        start(16, "6 whether it CAN be now (1, 0)");
        word("z", 0, 0, 0);
        due("it can", x.told(0, 6), 1);
        lose("z");
        due("it can't", x.told(0, 6), 0);
    }

    private static void stiff() {
        start(17, "STIFFNESS of a WORD now. NONE for others");
        due("none is told", x.stiff(0), -1);
        words(24);
        due("-1", x.stiff(-1), -1);
        due("0", x.stiff(0), 0);
        due("23", x.stiff(23), 0);
        due("24", x.stiff(24), -1);
        lose("a");
        due("one that can't be has it too", x.stiff(0), 0);
    }

    private static void least() {
        start(18, "0 STIFFNESS, 1 SECONDS, 2 how many letters. NONE: it can't be said, and for others");
        due("none is told", x.least(0, 0), -1);
        word("abcdefghi", 6, 0, 9);
        say(0, 0, 0, 0, 0);
        say(1);
        due("-1", x.least(0, -1), -1);
        due("0", x.least(0, 0), 57);
        due("1", x.least(0, 1), 0);
        due("2", x.least(0, 2), 45);
        due("3", x.least(0, 3), -1);
        lose("abcdefghi");
        due("1", x.least(0, 1), 405);
        for (int what = 0; what < 3; what++) {
            due("it can't be said", x.least(1, what), -1);
            due("sentence -1", x.least(-1, what), -1);
            due("sentence 2", x.least(2, what), -1);
        }
    }

    private static void sentence() {
        start(19, "the WORD at a place (from 0); of a place NONE: how many there are");
        due("none is told", x.sentence(0, 0), -1);
        word("a", 0, 0, 0);
        word("b", 0, 1, 0);
        say(0);
        say(0, 1, 0, 1, 1);
        due("how many", x.sentence(0, -1), 1);
        due("how many", x.sentence(1, -1), 5);
        due("0", x.sentence(0, 0), 0);
        due("1", x.sentence(0, 1), -1);
        due("4", x.sentence(1, 4), 1);
        due("5", x.sentence(1, 5), -1);
        due("-2", x.sentence(1, -2), -1);
        start(19, "NONE if it can't be said, and for others");
        word("a", 0, 0, 0);
        say(0, 1);
        due("how many", x.sentence(0, -1), -1);
        due("a place that has one", x.sentence(0, 0), -1);
        due("sentence -1", x.sentence(-1, -1), -1);
        due("sentence 1", x.sentence(1, -1), -1);
    }

    private static void states() {
        start(20, "STATES. NONE: none, and for others");
        due("none is told", x.states(0, 0, 0), -1);
        word("a", 0, 0, 9);
        word("b", 0, 1, 0);
        say(0, 0, 0, 0, 0);
        due("place -1", x.states(0, -1, 0), -1);
        due("place 0", x.states(0, 0, 0), 9);
        due("place 4", x.states(0, 4, 0), 57);
        due("place 5", x.states(0, 5, 0), -1);
        due("word -1", x.states(0, 0, -1), -1);
        due("a word of another sense", x.states(0, 0, 1), -1);
        due("word 2", x.states(0, 0, 2), -1);
        due("sentence -1", x.states(-1, 0, 0), -1);
        due("sentence 1", x.states(1, 0, 0), -1);
        lose("a");
        due("a word that can't be", x.states(0, 0, 0), -1);
    }

    private static void none() {
        start(21, "SENTENCES (bits) that can't be said");
        due("none is told", x.none(), 0);
        for (int i = 0; i < 8; i++) {
            say(i % 2);
        }
        due("all", x.none(), 255);
        word("a", 0, 1, 0);
        due("four", x.none(), 85);
        word("b", 0, 0, 0);
        due("none", x.none(), 0);
    }

    private static void worst() {
        start(22, "WORST. NONE: none is left");
        due("26 are left", x.worst(), 0);
        word("z", 0, 0, 0);
        say(0);
        due("z", x.worst(), 25);
        lose("bcdefghijklmnopqrstuvwxyz");
        due("one is left", x.worst(), 0);
        lose("a");
        due("none is left", x.worst(), -1);
    }

    private static void few() {
        start(23, "FEW: the first, the second of the two. NONE: there are no two left");
        due("the first", x.few(false), 0);
        due("the second", x.few(true), 1);
        lose("bcdefghijklmnopqrstuvwxy");
        due("two are left", x.few(false), 0);
        due("two are left", x.few(true), 25);
        lose("a");
        due("one is left", x.few(false), -1);
        due("one is left", x.few(true), -1);
    }

    private static void spare() {
        start(24, "SPARE. NONE: nothing can be said, or nothing is told");
        due("nothing is told", x.spare(), -1);
        word("z", 0, 0, 0);
        due("no sentence", x.spare(), -1);
        say(0);
        due("z", x.spare(), 25);
        lose("z");
        due("nothing can be said", x.spare(), -1);
    }

    private static void now() {
        start(25, "NOW. NONE for others");
        word("az", 0, 0, 0);
        say(0);
        due("-1", x.now(-1), -1);
        due("0", x.now(0), 1);
        due("1", x.now(1), 0);
        due("25", x.now(25), 1);
        due("26", x.now(26), -1);
    }

    private static void exact() {
        start(26, "EXACT. NONE for others (as many as there are KEYS left)");
        due("-1", x.exact(-1), -1);
        due("0", x.exact(0), 0);
        due("25", x.exact(25), 25);
        due("26", x.exact(26), -1);
        lose("a");
        due("0", x.exact(0), 1);
        due("24", x.exact(24), 25);
        due("25", x.exact(25), -1);
        lose("bcdefghijklmnopqrstuvwxyz");
        due("none is left", x.exact(0), -1);
    }

    private static void longer() {
        start(27, "LONGER");
        due("nothing is told", x.longer(), 0);
        word("e", 0, 0, 0);
        word("abcdfghij", 0, 0, 1);
        for (int i = 0; i < 8; i++) {
            say(0);
        }
        due("none is lost", x.longer(), 0);
        lose("e");
        due("eight for each of eight", x.longer(), 64);
        lose("a");
        due("nothing can be said", x.longer(), 0);
    }

    private static void law() {
        start(28, "WHOSE LAW (bits)");
        due("no texts", x.law(), 0);
        for (int i = 0; i < 4; i++) {
            text("stiff " + i + ";");
            due("none is heard", x.law(), (2 << i) - 1);
        }
        word("a", 0, 0, 0);
        for (int i = 0; i < 4; i++) {
            x.stiffs(-1, 0);
            x.stiffs(0, i);
            due("law", x.law(), 1 << i);
        }
        x.stiffs(-1, 0);
        x.stiffs(0, 4);
        due("none", x.law(), 0);
    }

    private static void stiffs() {
        start(29, "HEARD: how many there are (word NONE: none any more). -2 for others, or if there are 8");
        due("none of none", x.stiffs(-1, 0), 0);
        due("no word", x.stiffs(0, 0), -2);
        words(24);
        due("-2", x.stiffs(-2, 0), -2);
        due("24", x.stiffs(24, 0), -2);
        due("0", x.stiffs(0, 0), 1);
        due("23", x.stiffs(23, 99), 2);
        due("stiff -1", x.stiffs(0, -1), -2);
        due("stiff 100", x.stiffs(0, 100), -2);
        for (int i = 3; i <= 8; i++) {
            due("stiffs", x.stiffs(0, 0), i);
        }
        due("the 9th", x.stiffs(0, 0), -2);
        due("eight stay", x.about(7), 8);
        due("none any more", x.stiffs(-1, 500), 0);
        due("none", x.about(7), 0);
    }

    private static void notices() {
        start(30, "NOTICES: the upper (low false), the lower one (low true). NONE for others");
        for (int n = 0; n <= 8; n++) {
            for (int k = -1; k <= 9; k++) {
                boolean there = k >= 0 && k <= n;
                due("upper of " + k, x.notices(k, false), there ? 0 : -1);
                due("lower of " + k, x.notices(k, true), there ? 1 : -1);
            }
            if (n == 0) {
                word("a", 0, 0, 0);
            }
            say(0);
        }
    }

    private static void lines() {
        start(31, "LINES. NONE: none, and for others");
        word("a", 0, 0, 0);
        say(0);
        rule("notices 10;");
        due("-1", x.lines(-1), -1);
        due("0", x.lines(0), 0);
        due("1", x.lines(1), 1);
        due("100", x.lines(100), 1);
        due("101", x.lines(101), -1);
        rule("notices 9;");
        due("90", x.lines(90), 1);
        due("91", x.lines(91), -1);
        say(0);
        due("91 by two", x.lines(91), 2);
        due("99 by two", x.lines(99), 2);
        due("100", x.lines(100), -1);
    }

    private static void held() {
        start(32, "HELD. NONE: none");
        due("nothing is told", x.held(), -1);
        for (int i = 0; i < 7; i++) {
            say(1);
        }
        word("a", 0, 0, 9);
        due("none can be said", x.held(), -1);
        say(0);
        due("one can", x.held(), 7);
        lose("a");
        due("none can", x.held(), -1);
    }

    private static void page() {
        start(33, "A PAGE: how many WORDS there are (word NONE: none any more). -2 for others, or if there are 8");
        due("none of none", x.page(-1), 0);
        due("no word", x.page(0), -2);
        words(24);
        due("-2", x.page(-2), -2);
        due("24", x.page(24), -2);
        due("refused", refusals(), 30000);
        due("23", x.page(23), 1);
        for (int i = 2; i <= 8; i++) {
            due("page", x.page(0), i);
        }
        due("the 9th", x.page(0), -2);
        due("refused", refusals(), 30100);
        due("eight stay", x.about(5), 8);
        due("none any more", x.page(-1), 0);
        due("it isn't refused", refusals(), 30100);
    }

    private static void wrote() {
        start(34, "how many sets of KEYS (what 0), in all of these (1; bits), in none (2; bits). NONE for others");
        due("-1", x.wrote(-1), -1);
        due("0", x.wrote(0), 351);
        due("1", x.wrote(1), 0);
        due("2", x.wrote(2), 0);
        due("3", x.wrote(3), -1);
        word("az", 0, 0, 0);
        x.page(0);
        due("0", x.wrote(0), 300);
        due("2", x.wrote(2), 1 | 1 << 25);
    }

    private static void fewest() {
        start(35, "FEWEST. NONE: none");
        due("no words", x.fewest(), -1);
        for (int i = 0; i < 23; i++) {
            word("a", 0, 0, 0);
        }
        word("b", 0, 0, 0);
        due("the lowest", x.fewest(), 0);
        x.page(0);
        due("b", x.fewest(), 23);
        x.page(23);
        due("none", x.fewest(), -1);
    }

    private static void letters() {
        start(36, "LETTERS (bits). NONE for others");
        x.made(0, 25, 0);
        due("-1", x.letters(-1), -1);
        due("0", x.letters(0), 1 << 25);
        due("25", x.letters(25), 0);
        due("26", x.letters(26), -1);
    }

    private static void lot() {
        start(37, "LOT. NONE: none, and for others");
        due("none is told", x.lot(0), -1);
        words(23);
        word("z", 0, 0, 0);
        x.made(25, 0, 9);
        lose("z");
        due("-1", x.lot(-1), -1);
        due("0", x.lot(0), -1);
        due("23", x.lot(23), 25);
        due("24", x.lot(24), -1);
    }

    private static void wire() {
        start(38, "WIRE. NONE: it can't be said, and for others");
        due("none is told", x.wire(0), -1);
        word("a", 2, 0, 0);
        say(0);
        say(0, 0, 0, 0, 0);
        say(0, 1);
        due("-1", x.wire(-1), -1);
        due("0", x.wire(0), 3);
        due("1", x.wire(1), 15);
        due("it can't be said", x.wire(2), -1);
        due("3", x.wire(3), -1);
    }

    private static void worth() {
        start(39, "WORTH. NONE: it can't be said, and for others");
        due("none is told", x.worth(0), -1);
        word("aaaaaaaaa", 6, 0, 0);
        say(0, 0, 0, 0, 0);
        say(0, 1);
        due("0", x.worth(0), 0);
        lose("a");
        due("-1", x.worth(-1), -1);
        due("0", x.worth(0), 405);
        due("it can't be said", x.worth(1), -1);
        due("2", x.worth(2), -1);
    }

    private static void line() {
        start(40, "SENTENCES (saved false; bits), SECONDS saved (saved true). NONE for others (0 .. 999)");
        word("e", 6, 0, 0);
        say(0);
        lose("e");
        int[][] want = {{-1, -1, -1}, {0, 0, 0}, {1, 0, 0}, {2, 1, 9}, {999, 1, 9}, {1000, -1, -1}};
        for (int[] row : want) {
            due("bits of " + row[0], x.line(row[0], false), row[1]);
            due("seconds of " + row[0], x.line(row[0], true), row[2]);
        }
    }

    private static void all() {
        start(41, "ALL: how many SENSES can be said");
        due("none", x.all(), 0);
        for (int sense = 0; sense < 12; sense++) {
            word("a", 0, sense, 0);
            word("a", 0, sense, 0);
            due("all", x.all(), sense + 1);
        }
        lose("a");
        due("none", x.all(), 0);
    }

    private static void senses() {
        start(42, "SENSES (bits) that can't be said");
        due("all", x.senses(), 4095);
        word("a", 0, 0, 0);
        due("all but the first", x.senses(), 4094);
        word("a", 0, 11, 0);
        due("and but the last", x.senses(), 2046);
        lose("a");
        due("all", x.senses(), 4095);
    }

    private static void report() {
        start(43, "The tape (1 .. 9 bytes a .. z or -; empty then) is a word of THE REPORT: how many there are");
        due("0 bytes", x.report(), -1);
        due("1 byte", report("-"), 1);
        due("the tape is empty", x.about(8), 0);
        due("9 bytes", report("a-------z"), 2);
        due("10 bytes", report("a--------z"), -1);
        for (char c : new char[] {'`', '{', 'A', ',', '.', ' ', 10, 0, '_', 255}) {
            due("alone " + (int) c, report("" + c), -1);
            due("the last " + (int) c, report("--------" + c), -1);
        }
        due("refused", refusals(), 220000);
        start(43, "NONE, and the tape stays, for others, or if there are 5");
        due("others", report("A"), -1);
        due("the tape stays", x.about(8), 1);
        for (int i = 1; i <= 5; i++) {
            due("report", report("a-"), i);
        }
        due("the 6th", report("a-"), -1);
        due("the tape stays", x.about(8), 2);
        due("refused", refusals(), 10100);
        x.clear();
        due("there is room", x.report(), 1);
    }

    private static void clear() {
        start(44, "THE REPORT has no words any more: 0");
        due("of none", x.clear(), 0);
        for (int i = 0; i < 5; i++) {
            report("a");
        }
        due("of five", x.clear(), 0);
        due("none", x.about(6), 0);
        due("none", x.meant(0), -1);
    }

    private static void meant() {
        start(45, "MEANT (bits). NONE for others");
        for (int i = 0; i < 24; i++) {
            word("a", 0, 0, 0);
        }
        due("none", x.meant(0), -1);
        report("-");
        report("b");
        due("-1", x.meant(-1), -1);
        due("all 24", x.meant(0), (1 << 24) - 1);
        due("no word", x.meant(1), 0);
        due("2", x.meant(2), -1);
    }

    private static void fits() {
        start(46, "FITS: SENTENCES (bits)");
        due("nothing", x.fits(), 0);
        word("a", 0, 0, 0);
        for (int i = 0; i < 8; i++) {
            say(0, 0, 0, 0, 0);
        }
        for (int i = 0; i < 4; i++) {
            report("-");
            due("too few", x.fits(), 0);
        }
        report("-");
        due("all", x.fits(), 255);
    }

    private static void is() {
        start(47, "0 DAY, 1 LOST (bits), 2 SECONDS in all, 3 X. -2 for others");
        due("-1", x.is(-1), -2);
        due("0", x.is(0), 0);
        due("1", x.is(1), 0);
        due("2", x.is(2), 0);
        due("3", x.is(3), 173);
        due("4", x.is(4), -2);
        due("-2", x.is(-2), -2);
    }

    private static void use() {
        start(48, "USE of a KEY. NONE for others");
        word("az", 0, 0, 0);
        say(0);
        x.write(0);
        due("-1", x.use(-1), -1);
        due("0", x.use(0), 1);
        due("25", x.use(25), 1);
        due("26", x.use(26), -1);
        lose("a");
        due("of a lost one", x.use(0), 1);
    }

    private static void book() {
        start(49, "BOOK: how many (i NONE); the i-th, from the eldest on. -2 if there is none such, and for others");
        due("how many", x.book(-1, 0), 0);
        due("no line", x.book(0, 0), -2);
        word("a", 0, 0, 9);
        say(0);
        x.write(0);
        due("how many", x.book(-1, 0), 1);
        due("-2", x.book(-2, 0), -2);
        due("what -1", x.book(0, -1), -2);
        due("what 0", x.book(0, 0), 0);
        due("what 3", x.book(0, 3), 9);
        due("what 4", x.book(0, 4), -2);
        due("1", x.book(1, 0), -2);
        for (int i = 0; i < 40; i++) {
            x.write(0);
        }
        due("29", x.book(29, 3), 9);
        due("30", x.book(30, 3), -2);
        due("how many", x.book(-1, 3), 30);
    }

    private static void image() {
        start(50, "THE IMAGE is as all is now: DAY");
        due("the first day", x.image(), 0);
        x.week(3);
        due("the third", x.image(), 3);
        x.week(1);
        due("the latest image holds", x.restore(), 3);
        goToDay(9999);
        due("the last", x.image(), 9999);
        due("the last", x.restore(), 9999);
    }

    private static void restore() {
        start(51, "All is as at THE IMAGE again (it stays): DAY");
        due("of a new object", x.restore(), 0);
        x.week(2);
        x.image();
        x.week(5);
        due("once", x.restore(), 2);
        x.week(1);
        due("twice", x.restore(), 2);
        due("thrice", x.restore(), 2);
        due("steps", x.about(4), 2);
        due("undo", x.undo(), 1);
        due("undo", x.undo(), 0);
        due("it stays", x.restore(), 2);
        due("it is no step", x.about(4), 2);
    }

    private static void status() {
        start(52, "STATUS of a reason 0 .. 2. -2 for others");
        due("-2", x.status(-2), -2);
        due("-1", x.status(-1), -2);
        due("0", x.status(0), 0);
        due("1", x.status(1), 0);
        due("2", x.status(2), 0);
        due("3", x.status(3), -2);
    }

    private static void about() {
        start(53, "0 WORDS .. 8 bytes of the tape. -2 for others");
        due("-1", x.about(-1), -2);
        due("0", x.about(0), 0);
        due("the text", x.about(3), -1);
        due("8", x.about(8), 0);
        due("9", x.about(9), -2);
        due("-2", x.about(-2), -2);
        words(24);
        for (int i = 0; i < 8; i++) {
            say(0);
            x.page(0);
            x.stiffs(0, 0);
            text("");
            x.by(i);
            report("-");
        }
        x.week(40);
        tape(times(300, "a"));
        int[] full = {24, 8, 4, 3, 30, 8, 5, 8, 300};
        for (int what = 0; what < full.length; what++) {
            due("full " + what, x.about(what), full[what]);
        }
    }

    /** The outermost numbers, in each place of each call, on an object that has something of all. */
    private static void farOff() {
        fillSome();
        promise = "others, as far off as can be";
        for (int n : FAR_OFF) {
            due("fault " + n, x.fault(n), -1);
            due("by " + n, x.by(n), false);
            due("played " + n, x.played(n), -2);
            due("turn " + n, x.turn(n), -1);
            due("sense " + n, x.sense(n, 0, 0, 0, 0, 0), -1);
            due("sense of " + n, x.sense(1, n, 0, 0, 0, 0), -1);
            due("made " + n, x.made(n, 0, 0), false);
            due("made of " + n, x.made(0, n, 0), false);
            due("made look " + n, x.made(0, 1, n), false);
            due("key " + n, x.key(n), false);
            due("write " + n, x.write(n), -1);
            due("week " + n, x.week(n), -1);
            due("told " + n, x.told(n, 0), -1);
            due("told what " + n, x.told(0, n), -1);
            due("stiff " + n, x.stiff(n), -1);
            due("least " + n, x.least(n, 0), -1);
            due("least what " + n, x.least(0, n), -1);
            due("sentence " + n, x.sentence(n, 0), -1);
            due("sentence place " + n, x.sentence(0, n), -1);
            due("states " + n, x.states(n, 0, 0), -1);
            due("states place " + n, x.states(0, n, 0), -1);
            due("states word " + n, x.states(0, 0, n), -1);
            due("now " + n, x.now(n), -1);
            due("exact " + n, x.exact(n), -1);
            due("stiffs " + n, x.stiffs(n, 0), -2);
            due("stiffs stiff " + n, x.stiffs(0, n), -2);
            due("notices " + n, x.notices(n, true), -1);
            due("lines " + n, x.lines(n), -1);
            due("page " + n, x.page(n), -2);
            due("wrote " + n, x.wrote(n), -1);
            due("letters " + n, x.letters(n), -1);
            due("lot " + n, x.lot(n), -1);
            due("wire " + n, x.wire(n), -1);
            due("worth " + n, x.worth(n), -1);
            due("line " + n, x.line(n, true), -1);
            due("meant " + n, x.meant(n), -1);
            due("is " + n, x.is(n), -2);
            due("use " + n, x.use(n), -1);
            due("book " + n, x.book(n, 0), -2);
            due("book what " + n, x.book(0, n), -2);
            due("status " + n, x.status(n), -2);
            due("about " + n, x.about(n), -2);
            tape("a");
            due("word kind " + n, x.word(n, 0, 0), -1);
            due("word sense " + n, x.word(0, n, 0), -1);
            due("word stiff " + n, x.word(0, 0, n), -1);
            due("end " + n, x.end(n), -1);
        }
    }

    private static void fillSome() {
        start("something of all");
        word("see", 5, 0, 3);
        word("go", 0, 1, 2);
        say(0, 1);
        x.made(4, 2, 3);
        rule("stiff told+extra;");
        lose("e");
        x.write(0);
        x.week(3);
        x.page(1);
        report("s--");
        x.stiffs(0, 4);
    }

    private static void farOffChangesNothing() {
        fillSome();
        String ahead = state();
        for (int n : FAR_OFF) {
            x.by(n);
            x.played(n);
            x.turn(n);
            x.sense(n, n, n, n, n, n);
            x.made(n, n, n);
            x.key(n);
            x.write(n);
            x.week(n);
            x.stiffs(n, n);
            x.page(n);
            x.word(n, n, n);
        }
        due("nothing is changed", state(), ahead);
        due("refused", refusals(), FAR_OFF.length * 8 * 10000);
    }
}
