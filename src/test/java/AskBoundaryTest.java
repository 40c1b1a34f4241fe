/** The boundaries that part III names: of all that is asked and changes nothing. */
public final class AskBoundaryTest extends Bench {
    public static void main(String[] args) {
        changesNothing();
        unsaidIs50();
        worstOfLikeOnes();
        worstLeft();
        fewOfLikeOnes();
        fewLeft();
        nowOfAll();
        spareOfNone();
        spareOfLikeOnes();
        exactOrder();
        longerOrShorter();
        longerOfThoseSaid();
        noticesBehind0();
        noticesOfThoseThere();
        noticesBehind8();
        noticesInLowestTerms();
        linesOfP();
        linesOfNone();
        heldAsLine0();
        heldOfLikeOnes();
        pageOf8();
        wroteByKind();
        wroteOneOrTwo();
        fewestOfNone();
        fewestOfLikeOnes();
        lettersChain();
        lettersRing();
        lotOfLikeOnes();
        lotOfNone();
        wireOfTurned();
        lineForPence();
        lineOfLikeOnes();
        lineOfNone();
        sensesOf12();
        meantAlike();
        reportOf5();
        fitsAsMany();
        heardOf8();
        whoseLawOfNone();
        whoseLawAsNow();
        imageOfAll();
        imageBut();
        finish("the boundaries of what is asked hold");
    }

    private static void changesNothing() {
        start("All that follows changes nothing");
        word("see", 5, 0, 3);
        word("bed", 4, 1, 2);
        word("go", 0, 1, 2);
        x.turn(2);
        say(0, 1);
        say(1, 1, 0);
        x.made(4, 2, 3);
        rule("stiff told+extra+uses 3;wears 3;");
        lose("e");
        x.write(0);
        x.week(3);
        x.page(2);
        report("s--");
        x.stiffs(0, 4);
        tape("four");
        String ahead = state() + refusals() + x.about(8) + x.fault(0) + x.fault(1);
        x.told(0, 7);
        x.stiff(0);
        x.least(0, 0);
        x.sentence(0, 0);
        x.states(0, 1, 1);
        x.none();
        x.worst();
        x.few(true);
        x.few(false);
        x.spare();
        x.now(3);
        x.exact(3);
        x.longer();
        x.law();
        x.notices(2, true);
        x.lines(100);
        x.held();
        x.wrote(0);
        x.wrote(1);
        x.fewest();
        x.lot(0);
        x.wire(0);
        x.worth(0);
        x.line(999, true);
        x.all();
        x.senses();
        x.meant(0);
        x.fits();
        due("all", state() + refusals() + x.about(8) + x.fault(0) + x.fault(1), ahead);
    }

    private static void unsaidIs50() {
        for (int cost = 49; cost <= 51; cost++) {
            start("TOTAL: of each that can't be said 50, against " + cost);
            word("b", 0, 0, 0);
            word("a", 0, 1, 0);
            word("c", 3, 1, 0);
            say(0);
            say(1);
            rule("stiff if kind=3 then " + cost + " else 0 end;");
            due("a makes c of it, b can't be said", x.worst(), cost >= 50 ? 0 : 1);
        }
        start("TOTAL: LEAST of all SENTENCES together");
        word("a", 0, 0, 0);
        word("b", 0, 1, 0);
        say(0);
        say(1);
        say(1);
        due("b: 100", x.worst(), 1);
        say(7);
        due("what can't be said anyhow is in each", x.worst(), 1);
    }

    private static void worstOfLikeOnes() {
        start("WORST: of like ones the lowest");
        due("nothing is told", x.worst(), 0);
        lose("a");
        due("the lowest not lost", x.worst(), 1);
        word("yz", 0, 0, 0);
        say(0);
        due("y and z are alike", x.worst(), 24);
        lose("y");
        due("all are alike again", x.worst(), 1);
    }

    private static void worstLeft() {
        start("WORST. NONE: none is left");
        lose("abcdefghijklmnopqrstuvwxy");
        due("one is left", x.worst(), 25);
        lose("z");
        due("none is left", x.worst(), -1);
        x.undo();
        due("one is left", x.worst(), 25);
    }

    private static void fewOfLikeOnes() {
        start("FEW: the two unlike ones; of like ones the lowest first one, then the second");
        due("nothing is told", x.few(false) * 100 + x.few(true), 1);
        lose("b");
        due("the lowest not lost", x.few(false) * 100 + x.few(true), 2);
        word("z", 0, 0, 0);
        say(0);
        due("a and z", x.few(false) * 100 + x.few(true), 25);
        word("y", 0, 1, 0);
        say(1);
        due("y and z", x.few(false) * 100 + x.few(true), 2425);
        word("c", 0, 1, 0);
        due("a and z: y alone doesn't matter", x.few(false) * 100 + x.few(true), 25);
    }

    private static void fewLeft() {
        start("FEW. NONE: there are no two left");
        lose("abcdefghijklmnopqrstuvwx");
        due("two", x.few(false) * 100 + x.few(true), 2425);
        lose("y");
        due("one: the first", x.few(false), -1);
        due("one: the second", x.few(true), -1);
        lose("z");
        due("none: the first", x.few(false), -1);
        due("none: the second", x.few(true), -1);
    }

    private static void nowOfAll() {
        start("NOW: were all SENTENCES that can be said WRITTEN once");
        word("aaaaaaaaa", 6, 0, 0);
        word("z", 0, 1, 0);
        for (int i = 0; i < 7; i++) {
            say(0, 0, 0, 0, 0);
        }
        say(1, 9);
        due("a", x.now(0), 315);
        due("z: it can't be said", x.now(25), 0);
        due("use", x.use(0), 0);
        lose("a");
        due("a is lost", x.now(0), 0);
    }

    private static void spareOfNone() {
        start("SPARE: none (all 0)");
        due("nothing is told", x.spare(), -1);
        word("a", 4, 0, 0);
        due("no sentence", x.spare(), -1);
        say(0);
        due("a", x.spare(), 0);
        lose("a");
        due("it is said without a key", x.spare(), -1);
        start("SPARE: the KEY not LOST: none is left");
        word("a", 6, 0, 0);
        say(0);
        lose("bcdefghijklmnopqrstuvwxyz");
        due("one is left", x.spare(), 0);
        lose("a");
        due("none is left", x.spare(), -1);
        due("it can be said", x.none(), 0);
        due("now", x.now(0), 0);
        start("SPARE. NONE: nothing can be said");
        word("ab", 0, 0, 0);
        say(0);
        lose("a");
        due("spare", x.spare(), -1);
    }

    private static void spareOfLikeOnes() {
        start("SPARE: the KEY not LOST of most NOW; of like ones the lowest");
        word("zyzy", 0, 0, 0);
        say(0);
        due("y and z are alike", x.spare(), 24);
        word("z", 0, 1, 0);
        say(1);
        due("z", x.spare(), 25);
    }

    private static void exactOrder() {
        start("EXACT: most NOW first; of like ones the lowest: the i-th (from 0)");
        for (int i = 0; i < 26; i++) {
            due("nothing is told", x.exact(i), i);
        }
        due("26", x.exact(26), -1);
        due("-1", x.exact(-1), -1);
        word("zzzyyb", 0, 0, 0);
        say(0);
        int[] want = {25, 24, 1, 0, 2};
        for (int i = 0; i < want.length; i++) {
            due("exact " + i, x.exact(i), want[i]);
        }
        due("the last", x.exact(25), 23);
        lose("x");
        due("the last", x.exact(24), 22);
        due("no more", x.exact(25), -1);
        lose("acdefghijklmnopqrstuvwyz");
        due("one is left", x.exact(0), 1);
        due("no more", x.exact(1), -1);
        lose("b");
        due("none is left", x.exact(0), -1);
    }

    private static void longerOrShorter() {
        start("LONGER: how many more these are now");
        due("nothing is told", x.longer(), 0);
        word("eve", 0, 0, 0);
        word("dusky", 1, 0, 0);
        word("eden", 0, 1, 0);
        word("so", 1, 1, 9);
        say(0);
        due("none is lost", x.longer(), 0);
        lose("e");
        due("2 more", x.longer(), 2);
        say(1, 1);
        due("2 more, and 4 less", x.longer(), 2 - 4);
        lose("s");
        due("nothing can be said", x.longer(), 0);
    }

    private static void longerOfThoseSaid() {
        start("LONGER: of all SENTENCES that can be said");
        word("elephant", 0, 0, 0);
        word("ox", 0, 1, 0);
        say(0);
        say(1);
        lose("e");
        due("the other is in neither", x.longer(), 0);
        start("LONGER: now and with no KEY LOST");
        word("az", 0, 0, 0);
        word("bcdef", 0, 0, 1);
        say(0);
        for (int letter = 0; letter < 26; letter += 25) {
            x.key(letter);
            due("without " + letter, x.longer(), 3);
            x.undo();
        }
    }

    private static void noticesBehind0() {
        start("NOTICES behind k lines (0 .. 8): 0");
        due("upper", x.notices(0, false), 0);
        due("lower", x.notices(0, true), 1);
        due("-1", x.notices(-1, false), -1);
        due("1 of none", x.notices(1, false), -1);
    }

    private static void noticesOfThoseThere() {
        start("those that can't be said aside; k no more than there are of these");
        word("a", 0, 0, 4);
        word("b", 0, 1, 8);
        say(9);
        say(0);
        say(9);
        say(1);
        due("the first that can be said", x.notices(1, false) * 100 + x.notices(1, true), 110);
        due("both: 1 - 9/10 8/10", x.notices(2, false) * 100 + x.notices(2, true), 725);
        due("no third", x.notices(3, false), -1);
        due("no third", x.notices(3, true), -1);
        rule("notices line+1;");
        due("line is of those that can be said: 1 - 9/10 8/10", x.notices(2, false) * 100 + x.notices(2, true), 725);
    }

    private static void noticesBehind8() {
        start("NOTICES behind k lines (0 .. 8): 8");
        word("a", 0, 0, 4);
        for (int i = 0; i < 7; i++) {
            say(0);
        }
        due("8 of 7", x.notices(8, true), -1);
        say(0);
        due("8", x.notices(8, true), 100000000L);
        due("8", x.notices(8, false), 56953279L);
        due("9", x.notices(9, true), -1);
    }

    private static void noticesInLowestTerms() {
        start("ODDS .. in lowest terms");
        word("a", 0, 0, 0);
        say(0);
        say(0);
        int[][] want = {{0, 0, 1}, {5, 1, 2}, {2, 1, 5}, {10, 1, 1}};
        for (int i = 0; i < 4; i++) {
            rule("notices " + want[i][0] + ";");
            due("upper", x.notices(1, false), want[i][1]);
            due("lower", x.notices(1, true), want[i][2]);
        }
        due("sure is sure behind more lines", x.notices(2, false) * 10 + x.notices(2, true), 11);
        x.by(0);
        due("never is never", x.notices(2, false) * 10 + x.notices(2, true), 1);
        x.by(1);
        due("3 of 4", x.notices(2, false) * 10 + x.notices(2, true), 34);
    }

    private static void linesOfP() {
        start("LINES: the fewest k by which these ODDS are p (0 .. 100) of 100 or more");
        word("a", 0, 0, 4);
        for (int i = 0; i < 8; i++) {
            say(0);
        }
        due("-1", x.lines(-1), -1);
        due("0", x.lines(0), 0);
        due("1", x.lines(1), 1);
        due("10", x.lines(10), 1);
        due("11", x.lines(11), 2);
        due("19", x.lines(19), 2);
        due("20", x.lines(20), 3);
        due("27", x.lines(27), 3);
        due("28", x.lines(28), 4);
        due("56", x.lines(56), 8);
        due("57", x.lines(57), -1);
        due("100", x.lines(100), -1);
        due("101", x.lines(101), -1);
        rule("notices 10;");
        due("100", x.lines(100), 1);
        due("101", x.lines(101), -1);
        rule("notices if line=7 then 10 else 0 end;");
        due("1", x.lines(1), 8);
        due("100", x.lines(100), 8);
        due("0", x.lines(0), 0);
    }

    private static void linesOfNone() {
        start("LINES: none");
        due("0 of nothing", x.lines(0), 0);
        due("1 of nothing", x.lines(1), -1);
        word("a", 0, 0, 0);
        say(0);
        due("he doesn't notice", x.lines(1), -1);
    }

    private static void heldAsLine0() {
        start("HELD: by whose line alone, as line 0, he notices least");
        word("a", 0, 0, 8);
        word("b", 0, 1, 4);
        say(0);
        say(9);
        say(1);
        due("the second word's", x.held(), 2);
        rule("notices if line=0 then 10-total else total end;");
        due("the first word's", x.held(), 0);
    }

    private static void heldOfLikeOnes() {
        start("HELD: of like ones the lowest. NONE: none");
        due("nothing is told", x.held(), -1);
        say(9);
        due("it can't be said", x.held(), -1);
        word("a", 0, 0, 7);
        word("b", 0, 1, 4);
        say(0);
        say(1);
        due("7 by 4 and 4 by 4 are alike", x.held(), 1);
        word("c", 0, 2, 3);
        say(2);
        due("3 by 4 is less", x.held(), 3);
        rule("notices 10;");
        due("all are 10", x.held(), 1);
    }

    private static void pageOf8() {
        start("the PAGE (WORDS, 8 at most; told)");
        word("a", 0, 0, 0);
        for (int i = 1; i <= 8; i++) {
            due("page", x.page(0), i);
        }
        due("the 9th", x.page(0), -2);
        due("page", x.about(5), 8);
        due("refused", refusals(), 100);
        due("none any more", x.page(-1), 0);
        due("page", x.page(0), 1);
        due("refused", refusals(), 100);
    }

    private static void wroteByKind() {
        start("any WORD of KIND 0 .. 3 of the PAGE");
        for (int kind = 0; kind < 7; kind++) {
            word("" + (char) ('a' + kind), kind, 0, 0);
        }
        for (int kind = 0; kind < 7; kind++) {
            x.page(kind);
            due("in none", x.wrote(2), (1 << Math.min(4, kind + 1)) - 1);
        }
        due("sets", x.wrote(0), 22 + 22 * 21 / 2);
    }

    private static void wroteOneOrTwo() {
        start("WROTE: sets of one or two KEYS");
        due("26 and 325", x.wrote(0), 351);
        word("abcdefghi", 0, 0, 0);
        word("jklmnopqr", 0, 0, 0);
        word("stuvw", 0, 0, 0);
        word("x", 0, 0, 0);
        word("y", 0, 0, 0);
        word("z", 0, 0, 0);
        x.page(0);
        x.page(1);
        x.page(2);
        due("three keys: 3 and 3", x.wrote(0), 6);
        due("in all", x.wrote(1), 0);
        x.page(3);
        due("two keys: 2 and 1", x.wrote(0), 3);
        due("in all", x.wrote(1), 0);
        due("in none", x.wrote(2), (1 << 24) - 1);
        x.page(4);
        due("one key", x.wrote(0), 1);
        due("in all", x.wrote(1), 1 << 25);
        due("in none", x.wrote(2), (1 << 25) - 1);
        x.page(5);
        due("no key", x.wrote(0), 0);
        due("none without sets", x.wrote(1), 0);
        due("in none", x.wrote(2), (1 << 26) - 1);
        lose("a");
        due("what is lost here is nothing to it", x.wrote(0), 0);
    }

    private static void fewestOfNone() {
        start("FEWEST: none (no one has any)");
        due("no words", x.fewest(), -1);
        word("z", 4, 0, 0);
        word("z", 5, 0, 0);
        word("z", 6, 0, 0);
        due("no word of kind 0 .. 3", x.fewest(), -1);
        word("a", 0, 0, 0);
        due("a", x.fewest(), 3);
        x.page(3);
        due("a isn't in any set", x.fewest(), -1);
        word("ab", 3, 0, 0);
        due("b is", x.fewest(), 4);
    }

    private static void fewestOfLikeOnes() {
        start("FEWEST: of whose letters most KEYS are in some of these sets; of like ones the lowest");
        word("aaaaaaaaa", 0, 0, 0);
        word("ab", 1, 0, 0);
        word("cd", 2, 0, 0);
        word("abcdefghi", 4, 0, 0);
        due("each key once", x.fewest(), 1);
        x.page(0);
        due("b against c and d", x.fewest(), 2);
    }

    private static void lettersChain() {
        start("LETTERS: from it to the letter of which it is MADE, and so on: all that are come to, but itself");
        for (int letter = 0; letter < 25; letter++) {
            x.made(letter, letter + 1, 0);
        }
        due("a: 25 of them", x.letters(0), (1 << 26) - 2);
        due("y: z", x.letters(24), 1 << 25);
        due("z: none", x.letters(25), 0);
        lose("m");
        due("whether they are lost is nothing to it", x.letters(0), (1 << 26) - 2);
    }

    private static void lettersRing() {
        start("LETTERS: but itself");
        for (int letter = 0; letter < 26; letter++) {
            x.made(letter, (letter + 1) % 26, 0);
        }
        for (int letter = 0; letter < 26; letter++) {
            due("all others", x.letters(letter), (1 << 26) - 1 - (1 << letter));
        }
        x.made(1, 0, 0);
        due("a: b", x.letters(0), 2);
        due("b: a", x.letters(1), 1);
        due("z: a b", x.letters(25), 3);
        due("c: all but c", x.letters(2), (1 << 26) - 1 - 4);
    }

    private static void lotOfLikeOnes() {
        start("LOT: the (X mod how many there are)-th of these, each letter once, from the lowest on");
        word("zzzyyxwvu", 0, 0, 0);
        lose("uvwxyz");
        int[] want = {25, 25, 25, 23, 24, 25};
        for (int n = 1; n <= 6; n++) {
            x.made(26 - n, 0, 5);
            due("173 mod " + n, x.lot(0), want[n - 1]);
        }
        x.made(22, 0, 4);
        due("the least look alone", x.lot(0), 22);
        x.made(22, 0, 6);
        due("five: 173 mod 5 = 3: u v x y z", x.lot(0), 24);
        x.week(1);
        due("x anew", x.is(3), 3459);
        due("3459 mod 5 = 4", x.lot(0), 25);
        x.week(1);
        due("x anew", x.is(3), 16621);
        due("16621 mod 5 = 1", x.lot(0), 21);
    }

    private static void lotOfNone() {
        start("LOT: of a WORD's LOST letters the one .. that is MADE of one not LOST; none");
        word("ab", 0, 0, 0);
        x.made(0, 2, 0);
        x.made(1, 0, 9);
        due("none is lost", x.lot(0), -1);
        lose("z");
        due("none of it is lost", x.lot(0), -1);
        lose("b");
        due("b", x.lot(0), 1);
        lose("a");
        due("b is made of a lost one", x.lot(0), 0);
        lose("c");
        due("both are", x.lot(0), -1);
    }

    private static void wireOfTurned() {
        start("WIRE: 2 for each WORD, 1 more for each turned one");
        for (int kind = 0; kind < 7; kind++) {
            word("a", kind, kind, 0);
            say(kind);
        }
        for (int kind = 0; kind < 7; kind++) {
            due("wire", x.wire(kind), kind == 2 ? 3 : 2);
        }
        say(2, 2, 2, 2, 2);
        due("five turned", x.wire(7), 15);
    }

    private static void lineForPence() {
        start("LINE: to be wired for pence at most (0 .. 999)");
        word("ee", 4, 0, 0);
        for (int i = 0; i < 8; i++) {
            say(0, 0, 0, 0, 0);
        }
        lose("e");
        due("-1", x.line(-1, true), -1);
        due("-1", x.line(-1, false), -1);
        due("0", x.line(0, true), 0);
        due("9", x.line(9, true), 0);
        due("9", x.line(9, false), 0);
        due("10", x.line(10, true), 60);
        due("10", x.line(10, false), 1);
        due("19", x.line(19, false), 1);
        due("20", x.line(20, false), 3);
        due("79", x.line(79, false), 127);
        due("80", x.line(80, false), 255);
        due("80", x.line(80, true), 480);
        due("999", x.line(999, true), 480);
        due("999", x.line(999, false), 255);
        due("1000", x.line(1000, true), -1);
        due("1000", x.line(1000, false), -1);
    }

    private static void lineOfLikeOnes() {
        start("LINE: of like ones the fewest pence, then the lowest set");
        word("eee", 4, 0, 0);
        word("ee", 6, 1, 0);
        word("go", 0, 2, 0);
        say(0, 2);
        say(1);
        say(1);
        lose("e");
        due("18 for 4, 18 for 2, 18 for 2", x.line(3, false), 2);
        due("18 for 4 is no better", x.line(2, false), 2);
        due("36 for 4", x.line(4, false), 6);
        due("36 for 4 against 36 for 6", x.line(6, false), 6);
        due("36 for 4 still", x.line(7, false), 6);
        due("54 for 8", x.line(8, false), 7);
        say(2);
        due("nothing saved, nothing paid", x.line(999, false), 7);
    }

    private static void lineOfNone() {
        start("LINE: the SENTENCES that can be said");
        due("nothing is told", x.line(999, false) * 1000 + x.line(999, true), 0);
        word("e", 6, 0, 0);
        say(0, 9);
        lose("e");
        due("it can't be said", x.line(999, false) * 1000 + x.line(999, true), 0);
        say(0);
        due("it can", x.line(999, false) * 1000 + x.line(999, true), 2009);
        start("LINE: the SENTENCES that there are (again)");
        for (int n = 0; n < 8; n++) {
            x.restore();
            word("e", 6, 0, 0);
            for (int i = 0; i < 8; i++) {
                say(0);
            }
            lose("e");
            due("all eight", x.line(999, false) * 1000 + x.line(999, true), 255072);
            x.restore();
            word("e", 6, 0, 0);
            for (int i = 0; i < n; i++) {
                say(0);
            }
            lose("e");
            due("so many: " + n, x.line(999, false) * 1000 + x.line(999, true), ((1 << n) - 1) * 1000 + 9 * n);
            due("NOW of these alone", x.none() + x.longer() + x.notices(n, false), 0);
            due("no more lines", x.notices(n + 1, false), -1);
        }
    }

    private static void sensesOf12() {
        start("SENSES that can't be said: those of which no WORD CAN be (0 .. 11); ALL: the others");
        due("all of them", x.senses(), 4095);
        due("none", x.all(), 0);
        for (int sense = 0; sense < 12; sense++) {
            word(sense < 6 ? "a" : "b", 0, sense, 0);
            due("senses", x.senses(), 4095 - (1 << sense + 1) + 1);
            due("all", x.all(), sense + 1);
        }
        lose("a");
        due("senses", x.senses(), 63);
        due("all", x.all(), 6);
        lose("b");
        due("senses", x.senses(), 4095);
        word("ab", 4, 11, 0);
        due("senses", x.senses(), 2047);
    }

    private static void meantAlike() {
        start("MEANT: of as many letters, alike but where - stands");
        word("dusk", 0, 0, 0);
        word("dust", 4, 1, 0);
        word("dus", 0, 2, 0);
        word("dusks", 0, 3, 0);
        word("abcdefghi", 0, 4, 0);
        String[] reports = {"dusk", "dus-", "----", "-us-", "---------"};
        int[] want = {1, 3, 3, 3, 16};
        for (int i = 0; i < 5; i++) {
            due("report", report(reports[i]), i + 1);
            due(reports[i], x.meant(i), want[i]);
        }
        due("no 6th", x.meant(5), -1);
        x.clear();
        String[] others = {"dusl", "-----", "---", "--", "--------i"};
        int[] wantOthers = {0, 8, 4, 0, 16};
        for (int i = 0; i < 5; i++) {
            due("report", report(others[i]), i + 1);
            due(others[i], x.meant(i), wantOthers[i]);
        }
        lose("d");
        due("whether it can be is nothing to it", x.meant(2), 4);
    }

    private static void reportOf5() {
        start("THE REPORT: 5 words");
        due("none", x.meant(0), -1);
        for (int i = 1; i <= 5; i++) {
            due("report", report("a"), i);
            due("meant", x.meant(i - 1), 0);
            due("no more", x.meant(i), -1);
        }
        due("the 6th", report("a"), -1);
        due("the tape stays", x.about(8), 1);
        due("words", x.about(6), 5);
        due("clear", x.clear(), 0);
        due("none", x.meant(0), -1);
        due("report", x.report(), 1);
        due("clear", x.clear(), 0);
        due("clear of none", x.clear(), 0);
    }

    private static void fitsAsMany() {
        start("FITS: SENTENCES of as many SENSES as THE REPORT has words");
        word("a", 0, 0, 0);
        word("b", 0, 1, 0);
        say(0);
        say(0, 0);
        say(0, 0, 0, 0, 0);
        say(0, 0, 0, 0, 1);
        say(1);
        due("no words", x.fits(), 0);
        report("-");
        due("1", x.fits(), 1 | 16);
        report("a");
        due("2", x.fits(), 2);
        report("-");
        due("3", x.fits(), 0);
        report("-");
        due("4", x.fits(), 0);
        report("a");
        due("5", x.fits(), 4);
        lose("a");
        due("whether it can be said is nothing to it", x.fits(), 4);
        x.clear();
        report("c");
        due("no word may be it", x.fits(), 0);
    }

    private static void heardOf8() {
        start("HEARD, 8 at most: a WORD, STIFFNESS 0 .. 99");
        word("a", 0, 0, 0);
        due("-1", x.stiffs(0, -1), -2);
        due("0", x.stiffs(0, 0), 1);
        due("99", x.stiffs(0, 99), 2);
        due("100", x.stiffs(0, 100), -2);
        due("heard", x.about(7), 2);
        for (int i = 3; i <= 8; i++) {
            due("stiffs", x.stiffs(0, 0), i);
        }
        due("the 9th", x.stiffs(0, 0), -2);
        due("heard", x.about(7), 8);
        due("none any more", x.stiffs(-1, 0), 0);
        due("stiffs", x.stiffs(0, 0), 1);
        due("it isn't in STATUS", refusals(), 0);
    }

    private static void whoseLawOfNone() {
        start("WHOSE LAW: TEXTS (bits) by whose stiff all are so");
        word("a", 0, 0, 5);
        due("no texts", x.law(), 0);
        x.stiffs(0, 5);
        due("no texts", x.law(), 0);
        text("stiff 5;");
        text("stiff 4;");
        text("stiff told;");
        text("lose a;");
        due("5", x.law(), 1 + 4 + 8);
        x.stiffs(0, 4);
        due("5 and 4", x.law(), 0);
        x.stiffs(-1, 0);
        due("none is heard: all are so", x.law(), 15);
        due("whichever rules", x.by(1), true);
        due("all", x.law(), 15);
        start("WHOSE LAW: the 8th counts as well");
        word("a", 0, 0, 5);
        text("stiff told;");
        for (int i = 0; i < 7; i++) {
            x.stiffs(0, 5);
        }
        due("seven are so", x.law(), 1);
        x.stiffs(0, 6);
        due("the eighth isn't", x.law(), 0);
        start("WHOSE LAW: 0 and 99");
        word("a", 0, 0, 5);
        text("stiff 0-3;");
        text("stiff 300;");
        x.stiffs(0, 0);
        due("0 at least", x.law(), 1);
        x.stiffs(-1, 0);
        x.stiffs(0, 99);
        due("99 at most", x.law(), 2);
    }

    private static void whoseLawAsNow() {
        start("WHOSE LAW (as now)");
        word("ab", 4, 0, 0);
        text("stiff holes;");
        text("stiff 1;");
        text("stiff day;");
        text("stiff lost*2;");
        x.stiffs(0, 0);
        due("none is lost", x.law(), 1 + 4 + 8);
        lose("a");
        due("one is", x.law(), 4);
        x.by(1);
        x.stiffs(-1, 0);
        x.stiffs(0, 1);
        due("one is", x.law(), 3);
    }

    private static void imageOfAll() {
        start("THE IMAGE: all as it is");
        word("see", 5, 0, 3);
        say(0);
        x.made(4, 2, 3);
        rule("stiff told+extra;wears 5;");
        lose("e");
        x.week(35);
        x.page(0);
        report("s--");
        x.stiffs(0, 4);
        due("image", x.image(), 35);
        String then = state();
        word("bed", 4, 1, 2);
        say(1);
        x.made(4, 1, 9);
        x.made(3, 1, 9);
        text("stiff 1;");
        x.by(1);
        x.week(40);
        x.page(1);
        report("b");
        x.stiffs(1, 1);
        due("all is another", state().equals(then), false);
        due("restore", x.restore(), 35);
        due("all", state(), then);
        for (int i = 29; i >= 0; i--) {
            due("its steps too", x.undo(), i);
        }
        due("day", x.is(0), 5);
        due("restore", x.restore(), 35);
        due("all", state(), then);
        due("its texts too", text("stiff 2;"), 1);
        x.page(-1);
        x.clear();
        report("bed");
        x.stiffs(-1, 0);
        x.stiffs(0, 99);
        x.by(-1);
        due("restore", x.restore(), 35);
        due("all", state(), then);
    }

    private static void imageBut() {
        start("THE IMAGE: all as it is, but the tape, the latest FAULT and STATUS");
        tape("ab");
        x.image();
        tape("abcde");
        x.restore();
        due("the tape", x.about(8), 5);
        faulty("lose ab;", 7, 5);
        x.restore();
        due("the fault", x.fault(0) * 10 + x.fault(1), 75);
        x.key(26);
        x.restore();
        due("status", refusals(), 10000);
        text("lose a;");
        x.restore();
        due("the latest fault", x.fault(0), 0);
        due("the text is gone", x.about(2), 0);
    }
}
