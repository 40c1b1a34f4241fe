/** The boundaries that "Terms" and its text block name, each on both sides where there are two. */
public final class TermsBoundaryTest extends Bench {
    public static void main(String[] args) {
        lettersOf26();
        wordsOf24();
        lettersOfAWord();
        kindsSensesStiffs();
        keysAtFirst();
        madeAtFirst();
        looks();
        madeAnew();
        sentencesOf8();
        placesOf5();
        useUpTo9999();
        useBeyond9999();
        useOfMadeUpTo9999();
        secondsUpTo9999();
        secondsBeyond9999();
        dayUpTo9999();
        xAtFirst();
        bookOf30();
        bookOfTwoLinesADay();
        holesEachTime();
        withoutHoles();
        holedAlways();
        madeIfEach();
        madeLooks();
        fixedAlways();
        turnedLetters();
        turnedKinds();
        sameWord();
        bothTurned();
        lowestWordFirst();
        aPlaceHasNone();
        statesAlone();
        lostLettersAreNotUsed();
        dayWithoutSentences();
        dayByNumber();
        dayThatCantBeWritten();
        drawBelowWears();
        drawOfALostKey();
        noDayAt9999();
        stepsOf30();
        stepsOfEachSort();
        stepsTakenBack();
        statusByReason();
        statusFirstReason();
        statusAtMost();
        statusNeverLess();
        refusedChangesNothing();
        refusedByScripts();
        finish("the boundaries of the terms hold");
    }

    private static void lettersOf26() {
        start("LETTERS a .. z are 0 .. 25, each with a KEY");
        for (int letter : new int[] {-1, 26}) {
            due("key " + letter, x.key(letter), false);
            due("use " + letter, x.use(letter), -1);
            due("now " + letter, x.now(letter), -1);
            due("letters " + letter, x.letters(letter), -1);
            due("made " + letter, x.made(letter, 3, 0), false);
            due("made of " + letter, x.made(3, letter, 0), false);
        }
        due("refused", refusals(), 60000);
        for (int letter : new int[] {0, 25}) {
            due("use " + letter, x.use(letter), 0);
            due("now " + letter, x.now(letter), 0);
            due("letters " + letter, x.letters(letter), 0);
            due("made " + letter, x.made(letter, 3, 0), true);
            due("made of " + letter, x.made(3, letter, 0), true);
            due("key " + letter, x.key(letter), true);
        }
        due("lost", x.is(1), 1 | 1 << 25);
        word("az", 0, 0, 0);
        due("a", x.told(0, 8), 0);
        due("z", x.told(0, 9), 25);
        due("refused", refusals(), 60000);
    }

    private static void wordsOf24() {
        start("WORDS 0 .. 23 (told one by one)");
        for (int i = 0; i < 24; i++) {
            due("not told yet", x.told(i, 0), -1);
            due("word", word("a", 1, 0, 0), i);
            due("told", x.told(i, 0), 1);
        }
        due("words", x.about(0), 24);
        due("the 25th", word("a", 1, 0, 0), -1);
        due("no 25th", x.told(24, 0), -1);
        due("words", x.about(0), 24);
        start("WORDS 0 .. 23, turned ones among them");
        words(23);
        due("turn", x.turn(0), 23);
        due("turn", x.turn(0), -1);
        due("word", word("b", 0, 0, 0), -1);
        due("words", x.about(0), 24);
        due("refused", refusals(), 200);
        start("WORDS 0 .. 23, by a script");
        words(22);
        int t = text("word a kind 0 sense 0 stiff 0;turn 0;turn 0;");
        due("the 25th", x.played(t), 2);
        due("words", x.about(0), 24);
        due("refused", refusals(), 100);
    }

    private static void lettersOfAWord() {
        start("WORDS: 1 .. 9 letters");
        due("0", word("", 0, 0, 0), -1);
        due("1", word("a", 0, 0, 0), 0);
        due("9", word("zzzzzzzzz", 0, 0, 0), 1);
        due("10", word("zzzzzzzzzz", 0, 0, 0), -1);
        due("300", word(times(300, "z"), 0, 0, 0), -1);
        due("1 letter", x.told(0, 3), 1);
        due("9 letters", x.told(1, 3), 9);
        due("refused", refusals(), 30000);
        good("word z kind 0 sense 0 stiff 0;");
        good("word zzzzzzzzz kind 0 sense 0 stiff 0;");
        faulty("word kind 0 sense 0 stiff 0;", 1, 10);
        faulty("word zzzzzzzzzz kind 0 sense 0 stiff 0;", 7, 5);
    }

    private static void kindsSensesStiffs() {
        start("KIND 0 .. 6");
        due("-1", word("a", -1, 0, 0), -1);
        due("0", word("a", 0, 0, 0), 0);
        due("6", word("a", 6, 0, 0), 1);
        due("7", word("a", 7, 0, 0), -1);
        due("kinds", x.told(0, 0) * 10 + x.told(1, 0), 6);
        due("refused", refusals(), 20000);
        start("SENSE 0 .. 11");
        due("-1", word("a", 0, -1, 0), -1);
        due("0", word("a", 0, 0, 0), 0);
        due("11", word("a", 0, 11, 0), 1);
        due("12", word("a", 0, 12, 0), -1);
        due("senses", x.told(0, 1) * 100 + x.told(1, 1), 11);
        due("refused", refusals(), 20000);
        start("told stiff 0 .. 9");
        due("-1", word("a", 0, 0, -1), -1);
        due("0", word("a", 0, 0, 0), 0);
        due("9", word("a", 0, 0, 9), 1);
        due("10", word("a", 0, 0, 10), -1);
        due("stiffs", x.told(0, 2) * 10 + x.told(1, 2), 9);
        due("refused", refusals(), 20000);
    }

    private static void keysAtFirst() {
        start("LOST KEYS (at first none)");
        due("none", x.is(1), 0);
        for (int letter = 0; letter < 26; letter++) {
            due("key", x.key(letter), true);
        }
        due("all", x.is(1), (1 << 26) - 1);
        due("no more", x.key(25), false);
        due("refused", refusals(), 1);
    }

    private static void madeAtFirst() {
        start("MADE: at first none");
        word("e", 5, 0, 0);
        lose("e");
        for (int letter = 0; letter < 26; letter++) {
            due("letters", x.letters(letter), 0);
        }
        due("it can't be", x.told(0, 6), 0);
        due("no look", x.told(0, 7), 0);
        due("lot", x.lot(0), -1);
    }

    private static void looks() {
        start("LOOK 0 .. 9");
        word("e", 5, 0, 0);
        lose("e");
        due("-1", x.made(4, 0, -1), false);
        due("not made", x.told(0, 6), 0);
        due("0", x.made(4, 0, 0), true);
        due("made", x.told(0, 6), 1);
        due("extra", x.told(0, 7), 0);
        due("9", x.made(4, 0, 9), true);
        due("extra", x.told(0, 7), 9);
        due("10", x.made(4, 1, 10), false);
        due("extra stays", x.told(0, 7), 9);
        due("a stays", x.letters(4), 1);
    }

    private static void madeAnew() {
        start("MADE: of another one; the latest holds");
        word("e", 5, 0, 0);
        x.made(4, 0, 9);
        due("of itself", x.made(4, 4, 1), false);
        due("it stays", x.letters(4), 1);
        due("of the one ahead", x.made(4, 3, 2), true);
        due("of the one behind", x.made(4, 5, 3), true);
        lose("e");
        due("letters", x.letters(4), 1 << 5);
        due("look", x.told(0, 7), 3);
        lose("a");
        due("a doesn't matter any more", x.told(0, 6), 1);
        lose("f");
        due("f does", x.told(0, 6), 0);
    }

    private static void sentencesOf8() {
        start("SENTENCES 0 .. 7 (told)");
        word("a", 0, 0, 0);
        for (int i = 0; i < 8; i++) {
            due("not told yet", x.least(i, 0), -1);
            due("sense", say(0), i);
            due("told", x.least(i, 0), 0);
        }
        due("the 9th", say(0), -1);
        due("no 9th", x.least(8, 0), -1);
        due("sentences", x.about(1), 8);
        due("refused", refusals(), 100);
    }

    private static void placesOf5() {
        start("rows of 1 .. 5 SENSES");
        word("a", 0, 0, 0);
        word("z", 0, 11, 0);
        due("0", x.sense(0, 0, 0, 0, 0, 0), -1);
        due("1", x.sense(1, 0, 0, 0, 0, 0), 0);
        due("5", x.sense(5, 0, 11, 0, 11, 0), 1);
        due("6", x.sense(6, 0, 0, 0, 0, 0), -1);
        due("1 place", x.sentence(0, -1), 1);
        due("5 places", x.sentence(1, -1), 5);
        due("the last", x.sentence(1, 4), 0);
        due("the last but one", x.sentence(1, 3), 1);
        due("refused", refusals(), 20000);
        due("the last sense is 12", x.sense(5, 0, 0, 0, 0, 12), -1);
        due("the one behind the last is 12", x.sense(4, 0, 0, 0, 0, 12), 2);
        due("the first sense is -1", x.sense(1, -1, 0, 0, 0, 0), -1);
        due("the one behind the first is -1", x.sense(1, 0, -1, 0, 0, 0), 3);
    }

    /** Two ways to write: 45 of a at once, and one. A script brings its USE to 9990. */
    private static void useA9990Times() {
        word("aaaaaaaaa", 0, 0, 0);
        word("a", 0, 1, 0);
        say(0, 0, 0, 0, 0);
        say(1);
        int t = text(times(24, "write 0;"));
        for (int i = 0; i < 9; i++) {
            x.played(t);
        }
        for (int i = 0; i < 6; i++) {
            x.write(0);
        }
        due("use", x.use(0), 9990);
    }

    private static void useUpTo9999() {
        start("USE of each KEY 0 .. 9999 (at first 0)");
        for (int letter = 0; letter < 26; letter++) {
            due("use " + letter, x.use(letter), 0);
        }
        useA9990Times();
        for (int i = 1; i <= 9; i++) {
            x.write(1);
            due("use", x.use(0), 9990 + i);
        }
        due("it is still written", x.write(1), 0);
        due("9999 at most", x.use(0), 9999);
        x.undo();
        due("use", x.use(0), 9999);
        x.undo();
        due("use", x.use(0), 9998);
    }

    private static void useBeyond9999() {
        start("USE .. is one more each time (9999 at most)");
        useA9990Times();
        x.write(0);
        due("45 more", x.use(0), 9999);
        x.undo();
        due("as ahead", x.use(0), 9990);
        x.by(text("wears 0;"));
        x.week(1);
        due("by a day", x.use(0), 9999);
        x.week(1);
        due("by a day", x.use(0), 9999);
        x.week(1);
        due("by a day", x.use(0), 9999);
    }

    private static void useOfMadeUpTo9999() {
        start("of a LOST one in a WORD of KIND 5 that of the letter of which it is MADE (9999 at most)");
        useA9990Times();
        word("eeeeeeee", 5, 2, 0);
        say(2);
        x.made(4, 0, 0);
        lose("e");
        x.write(2);
        due("8 more", x.use(0), 9998);
        x.write(2);
        due("9999 at most", x.use(0), 9999);
        due("e", x.use(4), 0);
    }

    private static void secondsUpTo9999() {
        start("SECONDS by hand in all 0 .. 9999 (at first 0)");
        due("at first", x.is(2), 0);
        word("zzzzzzzzz", 6, 0, 0);
        word("z", 4, 1, 0);
        say(0, 0, 0, 0, 0);
        say(0, 0, 0);
        say(1);
        lose("z");
        for (int i = 0; i < 24; i++) {
            x.write(0);
        }
        x.write(1);
        for (int i = 0; i < 5; i++) {
            x.write(2);
        }
        due("seconds", x.is(2), 9993);
        x.write(2);
        due("seconds", x.is(2), 9999);
        due("it is still written", x.write(2), 1);
        due("9999 at most", x.is(2), 9999);
    }

    private static void secondsBeyond9999() {
        start("SECONDS in all are more (9999 at most)");
        word("zzzzzzzzz", 6, 0, 0);
        word("zzz", 6, 2, 0);
        word("z", 4, 1, 0);
        say(0, 0, 0, 0, 0);
        say(0, 0, 0);
        say(2);
        say(1);
        lose("z");
        for (int i = 0; i < 24; i++) {
            x.write(0);
        }
        x.write(1);
        x.write(2);
        x.write(3);
        due("seconds", x.is(2), 9996);
        x.write(3);
        due("6 more", x.is(2), 9999);
        x.undo();
        due("as ahead", x.is(2), 9996);
        due("of the line itself all are told", x.least(0, 1), 405);
    }

    private static void dayUpTo9999() {
        start("DAY 0 .. 9999 (at first 0)");
        due("at first", x.is(0), 0);
        goToDay(9998);
        due("one more", x.week(1), 0);
        due("day", x.is(0), 9999);
        due("none can pass", x.week(1), -1);
        due("day", x.is(0), 9999);
        word("a", 0, 0, 0);
        say(0);
        due("write on the last day", x.write(0), 0);
        due("its line", x.book(0, 0), 9999);
        due("key on the last day", x.key(0), true);
        due("image", x.image(), 9999);
    }

    private static void xAtFirst() {
        start("X: at first 173; X being (X * 409 + 283) mod 30517");
        int want = 173;
        due("at first", x.is(3), want);
        for (int day = 0; day < 60; day++) {
            x.week(1);
            want = (want * 409 + 283) % 30517;
            want = (want * 409 + 283) % 30517;
            due("x", x.is(3), want);
        }
        due("no key went", x.is(1), 0);
    }

    private static void bookOf30() {
        start("BOOK (the latest 30 lines)");
        for (int sense = 0; sense < 8; sense++) {
            word("a", 0, sense, sense);
            say(sense);
        }
        due("none", x.book(-1, 0), 0);
        due("no line", x.book(0, 0), -2);
        for (int i = 0; i < 29; i++) {
            x.write(i % 8);
        }
        due("29", x.book(-1, 0), 29);
        due("no 30th", x.book(29, 1), -2);
        x.write(29 % 8);
        due("30", x.book(-1, 0), 30);
        due("the eldest", x.book(0, 1), 0);
        due("the latest", x.book(29, 1), 29 % 8);
        x.write(30 % 8);
        due("30", x.book(-1, 0), 30);
        due("no 31st", x.book(30, 1), -2);
        due("the eldest is the second now", x.book(0, 1), 1);
        due("the latest", x.book(29, 1), 30 % 8);
        due("how much", x.book(29, 3), 30 % 8);
        for (int i = 31; i < 131; i++) {
            x.write(i % 8);
        }
        for (int i = 0; i < 30; i++) {
            due("line " + i, x.book(i, 1) * 10 + x.book(i, 3), (101 + i) % 8 * 11);
        }
    }

    private static void bookOfTwoLinesADay() {
        start("BOOK (the latest 30 lines): a day of two lines");
        word("a", 6, 0, 0);
        say(0);
        for (int i = 0; i < 29; i++) {
            x.write(0);
        }
        rule("wears 10;");
        x.week(1);
        due("30", x.book(-1, 0), 30);
        due("the sentence", x.book(28, 2), 0);
        due("the key", x.book(29, 2), 2);
        due("which", x.book(29, 1), 17);
        x.undo();
        due("29", x.book(-1, 0), 29);
    }

    private static void holesEachTime() {
        start("HOLES: how many of its letters are LOST (each time they are in it)");
        word("eeeeeeeee", 0, 0, 0);
        word("abcdefghi", 0, 0, 0);
        due("none", x.told(0, 4) + x.told(1, 4), 0);
        lose("z");
        due("another one", x.told(0, 4) + x.told(1, 4), 0);
        lose("e");
        due("nine", x.told(0, 4), 9);
        due("one", x.told(1, 4), 1);
        lose("abcdfghi");
        due("nine", x.told(1, 4), 9);
        start("HOLES: nine of one WORD are nothing to the next");
        word("aaaaaaaaa", 4, 0, 0);
        word("e", 5, 1, 0);
        say(0);
        say(1);
        x.made(4, 25, 9);
        lose("ae");
        rule("stiff holes*10;");
        due("nine", x.least(0, 0), 90);
        due("one", x.least(1, 0), 10);
        start("HOLES: nine of a WORD of no EXTRA are nothing to the next, which has none");
        words(21);
        word("aaaaaaaaa", 6, 1, 0);
        word("b", 0, 2, 0);
        word("aaaaaaaaa", 6, 3, 0);
        say(1);
        say(2);
        say(3);
        lose("a");
        rule("stiff holes*10+1;");
        due("nine", x.least(0, 0), 91);
        due("none", x.least(1, 0), 1);
        due("nine of the last", x.least(2, 0), 91);
    }

    private static void withoutHoles() {
        start("0 plain, 1 free, 2 turned, 3 near: without HOLES; EXTRA 0, 1, 2, 4; SECONDS 0");
        int[] extra = {0, 1, 2, 4};
        for (int kind = 0; kind < 4; kind++) {
            word("go", kind, 0, 0);
        }
        x.made(6, 0, 9);
        for (int round = 0; round < 3; round++) {
            for (int kind = 0; kind < 4; kind++) {
                due("can", x.told(kind, 6), round < 2 ? 1 : 0);
                due("extra", x.told(kind, 7), extra[kind]);
                due("seconds", x.told(kind, 5), 0);
            }
            if (round < 2) {
                lose(round == 0 ? "z" : "g");
            }
        }
    }

    private static void holedAlways() {
        start("4 holed: always; EXTRA HOLES; SECONDS 6 for each");
        word("eeeeeeeee", 4, 0, 0);
        due("no holes", x.told(0, 6) * 10000 + x.told(0, 7) * 100 + x.told(0, 5), 10000);
        lose("e");
        due("nine", x.told(0, 6) * 10000 + x.told(0, 7) * 100 + x.told(0, 5), 10954);
    }

    private static void madeIfEach() {
        start("5 made: if each LOST letter of it is MADE of one that isn't LOST");
        word("bed", 5, 0, 0);
        due("none is lost", x.told(0, 6), 1);
        x.made(1, 25, 1);
        lose("b");
        due("one is lost, and made", x.told(0, 6), 1);
        lose("d");
        due("another isn't made", x.told(0, 6), 0);
        x.made(3, 1, 1);
        due("it is, but of a lost one", x.told(0, 6), 0);
        x.made(3, 24, 1);
        due("each is", x.told(0, 6), 1);
        lose("z");
        due("that one is lost", x.told(0, 6), 0);
        x.made(25, 0, 0);
        due("made twice over isn't", x.told(0, 6), 0);
        x.made(1, 4, 1);
        due("of a letter of the word itself", x.told(0, 6), 1);
    }

    private static void madeLooks() {
        start("EXTRA LOOK of these together, each time; SECONDS 0; LOOK of letters not MADE is 0");
        word("eeddeedde", 5, 0, 0);
        x.made(4, 0, 9);
        due("none is lost", x.told(0, 7), 0);
        lose("e");
        due("five times", x.told(0, 7), 45);
        lose("d");
        due("d isn't made", x.told(0, 7), 45);
        due("it can't be", x.told(0, 6), 0);
        x.made(3, 4, 1);
        due("d is made of a lost one", x.told(0, 7), 49);
        due("it can't be", x.told(0, 6), 0);
        due("seconds", x.told(0, 5), 0);
    }

    private static void fixedAlways() {
        start("6 fixed (a name): always; EXTRA 0; SECONDS 9 for each HOLE");
        word("eeeeeeeee", 6, 0, 0);
        x.made(4, 0, 9);
        due("no holes", x.told(0, 6) * 10000 + x.told(0, 7) * 100 + x.told(0, 5), 10000);
        lose("e");
        due("nine", x.told(0, 6) * 10000 + x.told(0, 7) * 100 + x.told(0, 5), 10081);
    }

    private static void turnedLetters() {
        start("TURNED: a plain WORD of 1 .. 6 letters");
        word("a", 0, 0, 0);
        word("abcdef", 0, 11, 9);
        word("abcdefg", 0, 0, 0);
        word("abcdefghi", 0, 0, 0);
        due("1", x.turn(0), 4);
        due("6", x.turn(1), 5);
        due("7", x.turn(2), -1);
        due("9", x.turn(3), -1);
        due("refused", refusals(), 2);
        due("4 letters", x.told(4, 3), 4);
        due("9 letters", x.told(5, 3), 9);
        due("the last of them", x.told(5, 16), 5);
        due("its sense, told stiff", x.told(5, 1) * 10 + x.told(5, 2), 119);
    }

    private static void turnedKinds() {
        start("TURNED: a plain WORD");
        for (int kind = 0; kind < 7; kind++) {
            word("go", kind, 0, 0);
        }
        due("plain", x.turn(0), 7);
        for (int kind = 1; kind < 7; kind++) {
            due("kind " + kind, x.turn(kind), -1);
        }
        due("a turned one", x.turn(7), -1);
        due("refused", refusals(), 7);
        lose("dgo");
        due("whether it can be is nothing to it", x.turn(0), 8);
    }

    private static void sameWord() {
        start("3 more for each WORD that is the same as the one ahead");
        word("a", 0, 0, 0);
        word("a", 0, 1, 0);
        say(0);
        say(0, 0);
        say(0, 0, 0, 0, 0);
        say(0, 1);
        say(0, 1, 0);
        int[] want = {0, 3, 12, 0, 0};
        for (int s = 0; s < want.length; s++) {
            due("least " + s, x.least(s, 0), want[s]);
        }
        word("b", 0, 0, 3);
        due("another one for 3 is like it: the lowest", x.least(1, 0) * 10 + x.sentence(1, 1), 30);
        word("c", 0, 0, 2);
        due("another one for 2 is less", x.least(1, 0) * 10 + x.sentence(1, 1), 23);
    }

    private static void bothTurned() {
        start("1 more for each that is another one, if both are turned");
        word("a", 2, 0, 0);
        word("b", 2, 1, 0);
        word("c", 0, 2, 0);
        word("d", 1, 3, 0);
        say(0, 1);
        say(0, 2);
        say(2, 0);
        say(2, 3);
        say(0, 0);
        say(0, 1, 0, 1, 0);
        int[] want = {4 + 1, 2, 2, 1, 4 + 3, 10 + 4};
        for (int s = 0; s < want.length; s++) {
            due("least " + s, x.least(s, 0), want[s]);
        }
        start("1 more .. if both are turned: which WORDS these are then");
        word("a", 2, 0, 0);
        word("b", 2, 1, 0);
        word("c", 0, 1, 3);
        say(0, 1);
        say(1, 0);
        due("a b is 5, a c is 5: the lowest", x.least(0, 0) * 10 + x.sentence(0, 1), 51);
        due("b a is 5, c a is 5: the lowest", x.least(1, 0) * 10 + x.sentence(1, 0), 51);
        word("d", 0, 1, 2);
        due("a d is 4", x.least(0, 0) * 10 + x.sentence(0, 1), 43);
        due("d a is 4", x.least(1, 0) * 10 + x.sentence(1, 0), 43);
        word("e", 2, 1, 0);
        word("f", 2, 0, 0);
        say(0, 1, 0);
        due("a d a, not a d f", x.least(2, 0), 6);
        due("the third", x.sentence(2, 2), 0);
        lose("cd");
        due("a b a, not f", x.least(2, 0), 8);
        due("the third", x.sentence(2, 2), 0);
    }

    private static void lowestWordFirst() {
        start("of like ones the lowest WORD first, then the second, ..");
        word("a", 0, 0, 1);
        word("b", 0, 0, 1);
        word("c", 0, 1, 4);
        word("d", 0, 1, 4);
        say(0, 1);
        say(0, 0, 0);
        due("a c", x.sentence(0, 0) * 10 + x.sentence(0, 1), 2);
        due("a b a", x.sentence(1, 0) * 100 + x.sentence(1, 1) * 10 + x.sentence(1, 2), 10);
        start("of like ones the lowest WORD first, though the second be higher");
        word("x", 2, 0, 0);
        word("y", 0, 0, 1);
        word("z", 2, 1, 1);
        word("w", 0, 1, 4);
        say(0, 1);
        due("x z: 2 + 3 + 1, x w: 2 + 4, y z: 1 + 3", x.least(0, 0), 4);
        due("y z", x.sentence(0, 0) * 10 + x.sentence(0, 1), 12);
        start("of like ones the lowest WORD first, though the second be higher");
        word("x", 2, 0, 0);
        word("z", 2, 1, 0);
        word("y", 0, 0, 3);
        word("w", 0, 1, 3);
        say(0, 1);
        due("x z, x w and y z are 5", x.least(0, 0), 5);
        due("x z", x.sentence(0, 0) * 10 + x.sentence(0, 1), 1);
    }

    private static void aPlaceHasNone() {
        start("it can't be said, if a place has none");
        word("a", 0, 0, 0);
        word("b", 0, 1, 0);
        say(0, 0, 0, 0, 0);
        say(1, 0, 0, 0, 0);
        say(0, 0, 0, 0, 1);
        say(2);
        due("none", x.none(), 8);
        lose("b");
        due("none", x.none(), 14);
        due("all places have one", x.least(0, 0), 12);
        due("the first has none", x.least(1, 0), -1);
        due("the last has none", x.least(2, 0), -1);
    }

    private static void statesAlone() {
        start("STATES: to a place with a WORD there: least of the places up to it (as a SENTENCE of these alone)");
        word("a", 0, 0, 1);
        word("b", 0, 0, 2);
        say(0, 0, 9);
        due("it can't be said", x.least(0, 0), -1);
        due("the first place", x.states(0, 0, 0), 1);
        due("the first place", x.states(0, 0, 1), 2);
        due("the second place", x.states(0, 1, 0), 3);
        due("the second place", x.states(0, 1, 1), 3);
        due("the third has none", x.states(0, 2, 0), -1);
    }

    private static void lostLettersAreNotUsed() {
        start("USE of the KEY of each letter of its WORDS that isn't LOST is one more each time");
        for (int kind = 4; kind < 7; kind++) {
            word("eeb", kind, kind, 0);
        }
        say(4);
        say(5);
        say(6);
        x.made(4, 25, 0);
        lose("e");
        for (int s = 0; s < 3; s++) {
            x.write(s);
            due("b", x.use(1), s + 1);
            due("z: for a made one alone", x.use(25), s > 0 ? 2 : 0);
            due("e", x.use(4), 0);
        }
    }

    private static void dayWithoutSentences() {
        start("A DAY: if there are SENTENCES");
        word("a", 0, 0, 0);
        x.week(1);
        due("none", x.book(-1, 0), 0);
        say(0);
        x.week(1);
        due("one", x.book(-1, 0), 1);
        due("its day", x.book(0, 0), 1);
    }

    private static void dayByNumber() {
        start("number DAY mod how many there are is WRITTEN");
        word("a", 0, 0, 0);
        for (int i = 0; i < 8; i++) {
            say(0);
        }
        rule("wears 0;");
        x.week(17);
        for (int day = 0; day < 17; day++) {
            due("which on " + day, x.book(day, 1), day % 8);
        }
        start("number DAY mod how many there are: as many as there are then");
        word("a", 0, 0, 0);
        rule("wears 0;");
        say(0);
        x.week(5);
        say(0);
        x.week(1);
        due("5 mod 2", x.book(5, 1), 1);
        say(0);
        x.week(2);
        due("6 mod 3", x.book(6, 1), 0);
        due("7 mod 3", x.book(7, 1), 1);
    }

    private static void dayThatCantBeWritten() {
        start("is WRITTEN, if it can be (else that is written down)");
        word("a", 0, 0, 7);
        say(0);
        rule("wears 0;");
        x.week(1);
        due("written", x.book(0, 2) * 10 + x.book(0, 3), 7);
        lose("a");
        x.week(1);
        due("it couldn't be", x.book(1, 2) * 10 + x.book(1, 3), 10);
        due("which", x.book(1, 1), 0);
        due("use", x.use(0), 1);
        due("a day that passes is not refused", refusals(), 0);
    }

    private static void drawBelowWears() {
        for (int odds = 0; odds <= 10; odds++) {
            start("a draw by 10: below wears: it is LOST, wears " + odds);
            rule("wears " + odds + ";");
            due("the draw for r is 6", x.week(1), odds > 6 ? 1 : 0);
            due("lost", x.is(1), odds > 6 ? 1 << 17 : 0);
            due("written down", x.book(-1, 0), odds > 6 ? 1 : 0);
            due("x", x.is(3), 3459);
        }
        start("wears without: USE by 10, cut");
        word("rrrrrrr", 0, 0, 0);
        word("rrrr", 0, 1, 0);
        word("rrrrr", 0, 2, 0);
        say(1);
        say(0, 0, 0, 0, 0);
        say(2);
        x.write(1);
        x.write(0);
        x.write(0);
        x.write(0);
        x.write(0);
        x.write(0);
        x.write(2);
        x.write(2);
        due("use", x.use(17), 65);
        x.image();
        x.week(1);
        due("69 by 10 isn't above 6", x.is(1), 0);
        due("use", x.use(17), 69);
        x.restore();
        word("r", 0, 9, 0);
        say(9);
        x.write(3);
        x.week(1);
        due("70 by 10 is", x.is(1), 1 << 17);
        due("how much", x.book(x.book(-1, 0) - 1, 3), 70);
    }

    private static void drawOfALostKey() {
        start("if its KEY isn't LOST: a draw by 10");
        x.image();
        x.week(1);
        due("two draws", x.is(3), 3459);
        x.restore();
        lose("q");
        x.week(1);
        due("another key is lost: two draws", x.is(3), 3459);
        x.restore();
        lose("r");
        x.week(1);
        due("one draw", x.is(3), 10006);
    }

    private static void noDayAt9999() {
        start("DAY is one more (at 9999 none can pass)");
        goToDay(9997);
        String ahead = state();
        due("three days", x.week(3), -1);
        due("nothing is done", state(), ahead);
        due("refused", refusals(), 1);
        due("two days", x.week(2), 0);
        due("day", x.is(0), 9999);
        ahead = state();
        due("40 days", x.week(40), -1);
        due("nothing is done", state(), ahead);
        due("refused", refusals(), 2);
        x.undo();
        due("9998", x.week(1), 0);
    }

    private static void stepsOf30() {
        for (int steps = 29; steps <= 31; steps++) {
            start("STEPS: the latest 30 can be taken back, of " + steps);
            word("a", 0, 0, 0);
            say(0);
            for (int i = 0; i < steps; i++) {
                x.write(0);
            }
            int kept = Math.min(30, steps);
            due("steps", x.about(4), kept);
            for (int i = kept - 1; i >= 0; i--) {
                due("undo", x.undo(), i);
            }
            due("no more", x.undo(), -1);
            due("steps", x.about(4), 0);
            due("use", x.use(0), steps - kept);
            due("lines", x.book(-1, 0), steps - kept);
        }
        start("STEPS: 26 keys, then days");
        lose("abcdefghijklmnopqrstuvwxyz");
        due("steps", x.about(4), 26);
        x.week(5);
        due("steps", x.about(4), 30);
        for (int i = 0; i < 30; i++) {
            x.undo();
        }
        due("the first key can't be taken back", x.is(1), 1);
        due("no more", x.undo(), -1);
    }

    private static void stepsOfEachSort() {
        start("STEPS: a KEY LOST by hand (that isn't written down), WRITTEN, a DAY (each)");
        word("a", 0, 0, 0);
        say(0);
        turnMadeAndOthers();
        due("no step", x.about(4), 0);
        lose("z");
        due("a key", x.about(4), 1);
        due("it isn't written down", x.book(-1, 0), 0);
        x.write(0);
        due("written", x.about(4), 2);
        x.week(7);
        due("days", x.about(4), 9);
        x.key(25);
        x.write(5);
        x.week(0);
        due("what is refused is none", x.about(4), 9);
        int t = text("lose y;write 0;week 2;turn 0;lose y;");
        x.played(t);
        due("by a script", x.about(4), 13);
    }

    private static void turnMadeAndOthers() {
        x.turn(0);
        x.made(0, 1, 2);
        x.page(0);
        x.stiffs(0, 3);
        report("a-");
        text("stiff 3;");
        x.by(0);
        x.by(-1);
    }

    private static void stepsTakenBack() {
        start("the latest first (LOST, USE, SECONDS, DAY, X, BOOK are as ahead of it; all else stays as told)");
        word("eat", 6, 0, 3);
        say(0);
        rule("wears 10;");
        String[] ahead = new String[4];
        ahead[0] = state();
        lose("e");
        ahead[1] = state();
        x.write(0);
        ahead[2] = state();
        x.week(1);
        ahead[3] = state();
        x.week(1);
        for (int i = 3; i >= 0; i--) {
            due("undo", x.undo(), i);
            due("as ahead", state(), ahead[i]);
        }
        lose("e");
        turnMadeAndOthers();
        x.undo();
        due("words, texts, page, report, heard stay", x.about(0) * 10000 + x.about(2) * 1000 + x.about(5) * 100
                + x.about(6) * 10 + x.about(7), 12111);
        due("made stays", x.letters(0), 2);
    }

    private static void statusByReason() {
        start("STATUS: calls of word, turn, sense, made, key, write, week, page, report");
        words(1);
        word("", 0, 0, 0);
        x.turn(7);
        say(12);
        x.made(0, 0, 0);
        x.key(26);
        x.write(0);
        x.week(0);
        x.page(1);
        report("?");
        due("0 for each", refusals(), 90000);
        x.turn(-1);
        x.write(-1);
        x.page(-2);
        due("0 for each", refusals(), 120000);
        start("STATUS: no other call");
        x.feed(1, 1, 1, 1, 1);
        x.end(21);
        x.text();
        x.by(0);
        x.played(0);
        x.undo();
        x.told(0, 0);
        x.stiff(0);
        x.least(0, 0);
        x.sentence(0, 0);
        x.states(0, 0, 0);
        x.now(26);
        x.exact(26);
        x.stiffs(0, 0);
        x.notices(1, true);
        x.lines(101);
        x.wrote(3);
        x.letters(26);
        x.lot(0);
        x.wire(0);
        x.worth(0);
        x.line(1000, true);
        x.meant(0);
        x.is(4);
        x.use(26);
        x.book(0, 0);
        x.about(9);
        x.status(3);
        x.page(-1);
        due("none", refusals(), 0);
    }

    private static void statusFirstReason() {
        start("by the first reason: 0 .. of those told; 1 there is no room; 2 it can't be now");
        word("go", 1, 0, 0);
        for (int i = 1; i < 24; i++) {
            word("go", 0, 0, 0);
        }
        word("go", 7, 0, 0);
        due("a wrong word without room", refusals(), 10000);
        word("go", 0, 0, 0);
        due("a word without room", refusals(), 10100);
        x.turn(24);
        due("turn of no word without room", refusals(), 20100);
        x.turn(0);
        due("turn that can't be without room", refusals(), 20200);
        x.turn(1);
        due("turn without room", refusals(), 20300);
        for (int i = 0; i < 8; i++) {
            say(9);
        }
        say(12);
        due("a wrong sentence without room", refusals(), 30300);
        say(9);
        due("a sentence without room", refusals(), 30400);
        for (int i = 0; i < 8; i++) {
            x.page(0);
        }
        x.page(24);
        due("page of no word without room", refusals(), 40400);
        x.page(0);
        due("page without room", refusals(), 40500);
        for (int i = 0; i < 5; i++) {
            report("a");
        }
        report("A");
        due("a wrong report without room", refusals(), 50500);
        report("a");
        due("report without room", refusals(), 50600);
        x.write(0);
        due("write that can't be", refusals(), 50601);
        x.key(3);
        x.key(3);
        due("key that is lost", refusals(), 50602);
    }

    /** So many refusals are beyond the calls that are promised, but the sentence can be held to nowhere else. */
    private static void statusAtMost() {
        start("STATUS is 9999 at most");
        x.key(3);
        for (int i = 0; i < 9998; i++) {
            x.key(26);
            x.key(3);
        }
        due("0", x.status(0), 9998);
        due("2", x.status(2), 9998);
        x.key(26);
        due("0", x.status(0), 9999);
        x.key(26);
        due("0", x.status(0), 9999);
        due("2", x.status(2), 9998);
        due("1", x.status(1), 0);
    }

    private static void statusNeverLess() {
        start("STATUS: never less, is in no IMAGE");
        x.key(26);
        x.image();
        x.key(26);
        x.restore();
        due("restore", refusals(), 20000);
        lose("a");
        x.key(0);
        x.undo();
        due("undo", refusals(), 20001);
        x.week(1);
        x.key(1);
        due("what is done well", refusals(), 20001);
    }

    private static void refusedChangesNothing() {
        start("nothing else is changed by what is refused");
        fillAll();
        tape("ab");
        String ahead = state() + x.about(8) + x.fault(0) + x.fault(1);
        Runnable[] refused = {
            () -> x.word(0, 0, 0), () -> x.word(7, 0, 0), () -> x.turn(0), () -> x.turn(24), () -> x.turn(1),
            () -> say(0), () -> say(12), () -> x.made(0, 0, 1), () -> x.made(0, 1, 10), () -> x.key(25),
            () -> x.key(26), () -> x.write(7), () -> x.write(8), () -> x.week(0), () -> x.week(41),
            () -> x.page(0), () -> x.page(24), () -> x.report(),
        };
        for (int i = 0; i < refused.length; i++) {
            refused[i].run();
            due("refused", x.status(0) + x.status(1) + x.status(2), i + 1);
            due("all after " + i, state() + x.about(8) + x.fault(0) + x.fault(1), ahead);
        }
    }

    private static void fillAll() {
        words(23);
        word("go", 1, 1, 0);
        for (int i = 0; i < 7; i++) {
            say(0);
        }
        say(5);
        lose("z");
        x.write(0);
        x.week(3);
        for (int i = 0; i < 8; i++) {
            x.page(23);
            x.stiffs(0, 0);
        }
        for (int i = 0; i < 5; i++) {
            report("-o");
        }
        rule("stiff told;");
        text("lose ab;");
    }

    private static void refusedByScripts() {
        start("STATUS: .. were refused (by scripts as well)");
        String[] scripts = {"turn 0;", "write 0;", "make a of a look 0;"};
        for (int i = 0; i < scripts.length; i++) {
            due(scripts[i], x.played(text(scripts[i])), 0);
            due("refused", refusals(), (i + 1) * 10000);
        }
        due("lose", x.played(text("lose a;lose a;lose b;")), 1);
        due("refused", refusals(), 30001);
        due("the rest isn't played", x.is(1), 1);
        due("what wasn't played isn't counted", x.played(3), 0);
        due("refused", refusals(), 30002);
    }
}
