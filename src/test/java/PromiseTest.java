/** At least one test for each promise of the document: ordinary calls, the edges it names, and wrong ones. */
public final class PromiseTest extends Bench {
    public static void main(String[] args) {
        newObject();
        tapeCalls();
        tokens();
        faults();
        laws();
        arithmetic();
        playing();
        words();
        turning();
        sentences();
        madeAndKeys();
        writing();
        days();
        lastDay();
        undoing();
        toldAndStiff();
        least();
        unsayable();
        worstAndFew();
        presses();
        longer();
        whoseLaw();
        noticing();
        strangePage();
        madeLetters();
        telegraph();
        sensesSaid();
        reports();
        bookLines();
        images();
        statusOf();
        about();
        finish("all promises hold");
    }

    private static void newObject() {
        start("1 a new object");
        for (int what = 0; what <= 8; what++) {
            due("about " + what, x.about(what), what == 3 ? -1 : 0);
        }
        due("day", x.is(0), 0);
        due("lost", x.is(1), 0);
        due("seconds", x.is(2), 0);
        due("x", x.is(3), 173);
        due("use", x.use(4), 0);
        due("letters", x.letters(4), 0);
        due("book", x.book(-1, 0), 0);
        due("status", x.status(0) + x.status(1) + x.status(2), 0);
        word("sun", 0, 0, 0);
        x.key(3);
        x.sense(1, 0, 0, 0, 0, 0);
        x.week(3);
        due("restore", x.restore(), 0);
        due("words are gone", x.about(0), 0);
        due("sentences are gone", x.about(1), 0);
        due("steps are gone", x.about(4), 0);
        due("keys are there", x.is(1), 0);
        due("x", x.is(3), 173);
        due("NONE", WithoutE.NONE, -1);
    }

    private static void tapeCalls() {
        start("2 feed");
        for (int i = 1; i <= 15; i++) {
            due("feed", x.feed(1, 2, 3, 4, 5), 20 * i);
        }
        due("feed beyond 300", x.feed(1, 2, 3, 4, 5), -1);
        due("tape", x.about(8), 300);
        due("end", x.end(281), 281);
        due("feed beyond 300 from 281", x.feed(1, 2, 3, 4, 5), -1);
        due("tape", x.about(8), 281);
        due("end", x.end(280), 280);
        due("feed up to 300", x.feed(1, 2, 3, 4, 5), 300);
        start("2 feed, the highest byte first");
        x.feed(0x61626364, 0x65666768, 0x696a6b6c, 0, 0);
        x.end(9);
        due("word", x.word(0, 0, 0), 0);
        for (int i = 0; i < 9; i++) {
            due("letter", x.told(0, 8 + i), i);
        }
        start("2 feed, all five");
        x.feed(0x20202020, 0x20202020, 0x6c6f7365, 0x20202061, 0x2020203b);
        due("text", x.text(), 0);
        start("3 end");
        due("end(0)", x.end(0), 0);
        due("end(1) of none", x.end(1), -1);
        due("end(-1)", x.end(-1), -1);
        x.feed(0, 0, 0, 0, 0);
        due("end(21)", x.end(21), -1);
        due("tape", x.about(8), 20);
        due("end(-1)", x.end(-1), -1);
        due("tape", x.about(8), 20);
        due("end(20)", x.end(20), 20);
        due("end(7)", x.end(7), 7);
        due("end(8)", x.end(8), -1);
        due("tape", x.about(8), 7);
    }

    private static void tokens() {
        start("4 text, 5 fault");
        due("fault(0) ahead of any", x.fault(0), -1);
        due("fault(1) ahead of any", x.fault(1), -1);
        due("an empty text", x.text(), 0);
        due("fault(0)", x.fault(0), 0);
        due("fault(1)", x.fault(1), -1);
        due("fault(2)", x.fault(2), -1);
        due("fault(-1)", x.fault(-1), -1);
        due("text", text("lose a;"), 1);
        due("the tape is empty then", x.about(8), 0);
        due("text with a fault", text("lose ?;"), -1);
        due("fault(0)", x.fault(0), 1);
        due("fault(1)", x.fault(1), 5);
        due("texts", x.about(2), 2);
        due("text", text(" \n lose\na ; "), 2);
        due("text", text("lose a;"), 3);
        due("fault is of the latest", x.fault(0), 0);
        due("the 5th text", text("lose ?;"), -1);
        due("the tape stays", x.about(8), 7);
        due("it was not read", x.fault(0), 0);
        due("texts", x.about(2), 4);
        good("stiff if 1<=2 then 3 else 4 end;");
        good("word if kind 0 sense 0 stiff 0;lose a;");
        good("stiff if 1<2and 2<3or not 4#5then 6else 7end;");
        good("stiff 0009999;");
        good("stiff 00000000000000000012;");
        good("say 0,1 , 2,3,11;");
        good("week 1;week 40;turn 23;write 7;make a of a look 9;");
        good("stiff - - - - - - - -1;");
        good("stiff((((((((1))))))))+((((((((1))))))));");
        good("stiff day*lost+kind-told/long+holes+extra;wears day+lost+letter+use+uses 3;notices line+total+seconds+day+lost;");
        good(times(24, "lose a;"));
        good(times(24, "lose a;") + "   ");
        start("6 by");
        due("by none", x.by(-1), true);
        due("by(0)", x.by(0), false);
        due("by(-2)", x.by(-2), false);
        text("");
        due("by(0)", x.by(0), true);
        due("the text", x.about(3), 0);
        due("by(1)", x.by(1), false);
        due("the text stays", x.about(3), 0);
        due("by none", x.by(-1), true);
        due("the text", x.about(3), -1);
    }

    private static void faults() {
        start("5 faults");
        faulty("stif 1;", 1, 0);
        faulty("Stiff 1;", 1, 0);
        faulty("stiff 1", 1, 7);
        faulty("stiff 1  ", 1, 9);
        faulty("stiff 1 2;", 1, 8);
        faulty("stiff ;", 1, 6);
        faulty("stiff 1+;", 1, 8);
        faulty("stiff 1 < 2;", 1, 8);
        faulty("stiff (1<2);", 1, 8);
        faulty("stiff if 1 then 2 else 3 end;", 1, 11);
        faulty("stiff if 1<2<3 then 2 else 3 end;", 1, 12);
        faulty("stiff if 1< =2 then 2 else 3 end;", 1, 12);
        faulty("stiff if (1<2) then 2 else 3 end;", 1, 11);
        faulty("stiff if 1<2 then 2 end;", 1, 20);
        faulty("stiff not 1;", 1, 6);
        faulty("stiff if 1=1 and 2 then 1 else 1 end;", 1, 19);
        faulty("stiff if 1=1 or 2 then 1 else 1 end;", 1, 18);
        faulty("stiff if not 2 then 1 else 1 end;", 1, 15);
        faulty("stiff if 1=use then 1 else 1 end;", 5, 11);
        faulty("stiff 1*use;", 5, 8);
        faulty("stiff (use);", 5, 7);
        faulty("stiff -use;", 5, 7);
        faulty("stiff uses use;", 5, 11);
        faulty("stiff if 1=1 then use else 1 end;", 5, 18);
        faulty("stiff if 1=1 then 1 else use end;", 5, 25);
        faulty("stiff then;", 1, 6);
        faulty("stiff Day;", 1, 6);
        faulty("stiff 1 use;", 1, 8);
        faulty("stiff 1 10000;", 1, 8);
        faulty("\tstiff 1;", 1, 0);
        faulty("lose 1;", 1, 5);
        faulty("lose ;", 1, 5);
        faulty("say;", 1, 3);
        faulty("say 1,;", 1, 6);
        faulty("say a;", 1, 4);
        faulty("say 1 2;", 1, 6);
        faulty("word 12345 kind 0 sense 0 stiff 0;", 1, 5);
        faulty("word a kin 0 sense 0 stiff 0;", 1, 7);
        faulty("word a kind 0 sense 0 stiff a;", 1, 28);
        faulty("make a a look 0;", 1, 7);
        faulty("make a of b 3;", 1, 12);
        faulty("week 1,2;", 1, 6);
        faulty("turn -1;", 1, 5);
        faulty("stiff 10000;", 2, 6);
        faulty("stiff 99999999999999999999;", 2, 6);
        faulty("stiff 4294967297;", 2, 6);
        faulty("say 12;", 2, 4);
        faulty("say 1,12;", 2, 6);
        faulty("word a kind 7 sense 0 stiff 0;", 2, 12);
        faulty("word a kind 0 sense 12 stiff 0;", 2, 20);
        faulty("word a kind 0 sense 0 stiff 10;", 2, 28);
        faulty("make a of b look 10;", 2, 17);
        faulty("turn 24;", 2, 5);
        faulty("write 8;", 2, 6);
        faulty("week 0;", 2, 5);
        faulty("week 41;", 2, 5);
        faulty("stiff (((((((((1;", 3, 14);
        faulty("stiff ---------1;", 3, 14);
        faulty("stiff ((((uses uses --(1;", 3, 22);
        faulty("stiff if not not not not not not not not 1<2 then 1 else 1 end;", 3, 37);
        faulty("stiff if (((((((1))))))) < ((((((((1 then 1 else 1 end;", 3, 34);
        faulty("stiff ((((((((if 1<2 then 1 else 1 end", 3, 14);
        faulty("stiff 1;stiff 2;", 4, 8);
        faulty("wears 1;stiff 1;wears 2;", 4, 16);
        faulty("notices 1; notices 2;", 4, 11);
        faulty("stiff letter;", 5, 6);
        faulty("stiff 1+total;", 5, 8);
        faulty("wears kind;", 5, 6);
        faulty("wears seconds;", 5, 6);
        faulty("notices use;", 5, 8);
        faulty("notices extra;", 5, 8);
        faulty(times(24, "lose a;") + "lose", 6, 168);
        faulty(times(24, "lose a;") + "los", 1, 168);
        faulty("stiff 1;" + times(23, "lose a;") + "stiff 2;", 4, 169);
        faulty("stiff 1;" + times(23, "lose a;") + "wears 2;", 6, 169);
        faulty("word abcdefghij kind 0 sense 0 stiff 0;", 7, 5);
        faulty("word aBc kind 0 sense 0 stiff 0;", 7, 5);
        faulty("lose ab;", 7, 5);
        faulty("lose A;", 7, 5);
        faulty("lose Z;", 7, 5);
        faulty("lose [;", 1, 5);
        faulty("lose @;", 1, 5);
        faulty("lose `;", 1, 5);
        faulty("lose {;", 1, 5);
        faulty("make a of bc look 1;", 7, 10);
        faulty("say 0,1,2,3,4,5;", 8, 13);
        faulty("say 0,1,2,3,4,99;", 8, 13);
        faulty("lose " + (char) 200 + ";", 1, 5);
        String longLaw = "stiff 1" + times(140, "+1") + ";";
        for (int i = 0; i < 3; i++) {
            faulty(longLaw + "?", 1, longLaw.length());
        }
        faulty("lose ab;", 7, 5);
        due("not a third", x.fault(2), -1);
        due("none was taken", x.about(2), 0);
        due("the tape is empty", x.about(8), 0);
        word("a", 0, 0, 0);
        rule("stiff 1" + times(90, "+1") + ";");
        due("faults leave nothing behind", x.stiff(0), 91);
    }

    private static void laws() {
        start("the laws");
        word("abba", 4, 0, 5);
        lose("a");
        rule("stiff kind*10+told;");
        due("kind and told", x.stiff(0), 45);
        rule("stiff long*10+holes;");
        due("long and holes", x.stiff(0), 42);
        rule("stiff extra*10+lost+day;");
        due("extra, lost, day", x.stiff(0), 21);
        rule("stiff 0-1;");
        due("0 at least", x.stiff(0), 0);
        start("the laws");
        word("abc", 0, 0, 5);
        rule("stiff 100;");
        due("99 at most", x.stiff(0), 99);
        rule("wears 3;");
        due("without", x.stiff(0), 5);
        x.by(-1);
        due("none", x.stiff(0), 5);
        start("the laws: uses");
        word("abb", 0, 0, 0);
        x.sense(1, 0, 0, 0, 0, 0);
        x.write(0);
        rule("stiff uses 0*10+uses 1;");
        due("uses", x.stiff(0), 12);
        rule("stiff uses 26+uses-1+uses uses 1+7;");
        due("uses of others, of uses", x.stiff(0), 7);
        start("the laws: wears");
        word("a", 0, 0, 0);
        x.sense(1, 0, 0, 0, 0, 0);
        rule("wears if letter=17 then 7 else 0 end;");
        due("the draw is 6 for letter 17", x.week(1), 1);
        due("lost", x.is(1), 1 << 17);
        start("the laws: wears");
        rule("wears if letter=17 then 6 else 0 end;");
        due("6 isn't below 6", x.week(1), 0);
        start("the laws: wears without");
        word("rrrrrrr", 0, 0, 0);
        x.sense(5, 0, 0, 0, 0, 0);
        x.write(0);
        due("35 uses", x.use(17), 35);
        due("70 by 10 is above 6", x.week(1), 1);
        due("the book has its use", x.book(2, 3), 70);
    }

    private static int value(String sum) {
        start("arithmetic");
        word("abc", 0, 0, 5);
        rule("stiff " + sum + ";");
        return x.stiff(0);
    }

    private static void arithmetic() {
        due("from the left", value("10-4-3"), 3);
        due("product first", value("2+3*4"), 14);
        due("from the left", value("7/2*2"), 6);
        due("cut towards 0", value("10+(0-7)/2"), 7);
        due("by 0", value("3+5/0"), 3);
        due("clipped above", value("9999*9999/9999-90"), 10);
        due("clipped above", value("9999*100+100+7-9999*100-50"), 50);
        due("clipped at 1000000", value("9999*101/(9999*101/50)"), 50);
        due("clipped at 1000000", value("(9999*9999)/500/100"), 20);
        due("clipped below", value("(0-9999*9999-9999)/(0-500)/100"), 20);
        due("clipped at each step", value("(9999*9999-9999*99)/100/100"), 1);
        due("minus", value("--3-(-4)"), 7);
        due("minus is of one", value("-2+5"), 3);
        due("minus goes ahead of times", value("10+-2*3"), 4);
        due("if", value("if 1<2 then 3 else 4 end"), 3);
        due("if", value("if 2<1 then 3 else 4 end"), 4);
        due("<", value("if 2<2 then 1 else 0 end"), 0);
        due("<=", value("if 2<=2 then 1 else 0 end"), 1);
        due("<=", value("if 3<=2 then 1 else 0 end"), 0);
        due(">", value("if 2>2 then 1 else 0 end"), 0);
        due(">", value("if 3>2 then 1 else 0 end"), 1);
        due(">=", value("if 2>=2 then 1 else 0 end"), 1);
        due(">=", value("if 1>=2 then 1 else 0 end"), 0);
        due("=", value("if 2=2 then 1 else 0 end"), 1);
        due("=", value("if 2=3 then 1 else 0 end"), 0);
        due("#", value("if 2#2 then 1 else 0 end"), 0);
        due("#", value("if 2#3 then 1 else 0 end"), 1);
        due("and", value("if 1=1 and 1=2 then 1 else 0 end"), 0);
        due("and", value("if 1=1 and 2=2 then 1 else 0 end"), 1);
        due("or", value("if 1=2 or 1=1 then 1 else 0 end"), 1);
        due("or", value("if 1=2 or 2=1 then 1 else 0 end"), 0);
        due("and binds", value("if 1=1 or 1=1 and 1=2 then 1 else 0 end"), 1);
        due("not is of one ask", value("if not 1=1 or 1=1 then 1 else 0 end"), 1);
        due("not", value("if not 1=1 then 1 else 0 end"), 0);
        due("not", value("if not 1=2 then 1 else 0 end"), 1);
        due("a true ask is 1", value("if not 1<2 then 1 else 0 end+if not 1<=2 then 1 else 0 end"
                + "+if not 2>1 then 1 else 0 end+if not 2>=1 then 1 else 0 end+if not 2#1 then 1 else 0 end"), 0);
        due("not not", value("if not not 1=1 and not 1=2 then 1 else 0 end"), 1);
        due("an if in a sum", value("1+if 1<2 then if 1<2 then 5 else 6 end else 7 end*10"), 51);
        due("an if in an ask", value("if if 1<2 then 3 else 4 end=3 then 8 else 9 end"), 8);
    }

    private static void playing() {
        start("7 played");
        due("played(0)", x.played(0), -2);
        due("played(-1)", x.played(-1), -2);
        int t = text("stiff 7;word sun kind 0 sense 3 stiff 2;say 3,3;make a of b look 4;lose d;turn 0;write 0;week 2;");
        due("played", x.played(t), -1);
        due("words", x.about(0), 2);
        due("letters", x.told(0, 8) * 10000 + x.told(0, 9) * 100 + x.told(0, 10), 182013);
        due("kind", x.told(0, 0), 0);
        due("sense", x.told(0, 1), 3);
        due("stiff", x.told(0, 2), 2);
        due("turned", x.told(1, 0), 2);
        due("sentences", x.about(1), 1);
        due("made", x.letters(0), 2);
        due("lost", x.is(1), 8);
        due("steps", x.about(4), 4);
        due("day", x.is(0), 2);
        due("book", x.book(-1, 0), 3);
        due("its laws don't rule", x.about(3), -1);
        due("stiff", x.stiff(0), 2);
        due("played again", x.played(t), 4);
        due("what was done stays", x.about(0), 3);
        due("what was done stays", x.about(1), 2);
        due("nothing behind it", x.is(0), 2);
        due("refused", x.status(2), 1);
        start("7 played: what can't be");
        t = text("lose a;make b of b look 1;lose c;");
        due("made of itself", x.played(t), 1);
        due("refused as by hand", x.status(0), 1);
        due("lost", x.is(1), 1);
        t = text("write 0;");
        due("no such sentence", x.played(t), 0);
        due("refused", x.status(0), 2);
        t = text("notices 1;turn 5;");
        due("no such word", x.played(t), 1);
        due("refused", x.status(0), 3);
        t = text("say 1;write 0;");
        due("it can't be said", x.played(t), 1);
        due("refused", x.status(2), 1);
        due("nothing is written down", x.book(-1, 0), 0);
        start("7 played: no room");
        t = text(times(9, "say 1;"));
        due("9 sentences", x.played(t), 8);
        due("refused", x.status(1), 1);
        for (int i = 0; i < 24; i++) {
            word("a", 0, 0, 0);
        }
        t = text("word a kind 0 sense 0 stiff 0;");
        due("25 words", x.played(t), 0);
        due("refused", x.status(1), 2);
        tape("lose");
        x.played(t);
        due("the tape stays", x.about(8), 4);
    }

    private static void words() {
        start("8 word");
        due("no tape", x.word(0, 0, 0), -1);
        due("word", word("abcdefghi", 6, 11, 9), 0);
        due("the tape is empty", x.about(8), 0);
        due("kind, sense, stiff", x.told(0, 0) * 1000 + x.told(0, 1) * 10 + x.told(0, 2), 6119);
        due("10 letters", word("abcdefghij", 0, 0, 0), -1);
        due("the tape stays", x.about(8), 10);
        due("a large letter", word("aB", 0, 0, 0), -1);
        due("a -", word("a-", 0, 0, 0), -1);
        due("a blank", word("a ", 0, 0, 0), -1);
        due("kind 7", word("a", 7, 0, 0), -1);
        due("kind -1", x.word(-1, 0, 0), -1);
        due("sense 12", x.word(0, 12, 0), -1);
        due("sense -1", x.word(0, -1, 0), -1);
        due("stiff 10", x.word(0, 0, 10), -1);
        due("stiff -1", x.word(0, 0, -1), -1);
        due("the tape stays", x.about(8), 1);
        due("refused", x.status(0), 11);
        due("word", x.word(0, 0, 0), 1);
        for (int i = 2; i < 24; i++) {
            due("word", word("a", 0, 0, 0), i);
        }
        due("the 25th", word("a", 0, 0, 0), -1);
        due("the tape stays", x.about(8), 1);
        due("no room", x.status(1), 1);
        due("a wrong one without room", x.word(0, 0, 10), -1);
        due("the first reason", x.status(0), 12);
    }

    private static void turning() {
        start("9 turn");
        due("none told", x.turn(0), -1);
        word("nested", 0, 4, 7);
        word("longest", 0, 4, 7);
        word("near", 3, 4, 7);
        due("turn", x.turn(0), 3);
        String did = "didnested";
        for (int i = 0; i < 9; i++) {
            due("letter", x.told(3, 8 + i), did.charAt(i) - 'a');
        }
        due("letters", x.told(3, 3), 9);
        due("kind, sense, stiff", x.told(3, 0) * 100 + x.told(3, 1) * 10 + x.told(3, 2), 247);
        due("7 letters", x.turn(1), -1);
        due("not plain", x.turn(2), -1);
        due("turned", x.turn(3), -1);
        due("refused", x.status(2), 3);
        due("no word", x.turn(4), -1);
        due("-1", x.turn(-1), -1);
        due("refused", x.status(0), 3);
        for (int i = 4; i < 24; i++) {
            due("turn", x.turn(0), i);
        }
        due("no room", x.turn(0), -1);
        due("no room, and it can't be", x.turn(1), -1);
        due("refused", x.status(1), 2);
        due("no word", x.turn(24), -1);
        due("refused", x.status(0), 4);
    }

    private static void sentences() {
        start("10 sense");
        due("0", x.sense(0, 0, 0, 0, 0, 0), -1);
        due("6", x.sense(6, 0, 0, 0, 0, 0), -1);
        due("sense 12", x.sense(1, 12, 0, 0, 0, 0), -1);
        due("sense -1", x.sense(5, 0, 0, 0, 0, -1), -1);
        due("the others don't matter", x.sense(2, 0, 11, 12, -1, 99), 0);
        for (int i = 1; i < 8; i++) {
            due("sense", x.sense(1, 0, 0, 0, 0, 0), i);
        }
        due("the 9th", x.sense(1, 0, 0, 0, 0, 0), -1);
        due("a wrong 9th", x.sense(0, 0, 0, 0, 0, 0), -1);
        due("refused", x.status(0) * 10 + x.status(1), 51);
    }

    private static void madeAndKeys() {
        start("11 made");
        due("made", x.made(0, 25, 9), true);
        due("made", x.made(25, 0, 0), true);
        due("of itself", x.made(3, 3, 1), false);
        due("letter 26", x.made(26, 0, 1), false);
        due("letter -1", x.made(-1, 0, 1), false);
        due("of 26", x.made(0, 26, 1), false);
        due("of -1", x.made(0, -1, 1), false);
        due("look 10", x.made(0, 1, 10), false);
        due("look -1", x.made(0, 1, -1), false);
        due("refused", x.status(0), 7);
        due("it stays", x.letters(0), 1 << 25);
        due("the latest holds", x.made(0, 3, 2), true);
        due("letters", x.letters(0), 1 << 3);
        due("no step", x.about(4), 0);
        start("12 key");
        due("key", x.key(0), true);
        due("key", x.key(25), true);
        due("lost", x.is(1), 1 << 25 | 1);
        due("again", x.key(0), false);
        due("26", x.key(26), false);
        due("-1", x.key(-1), false);
        due("steps", x.about(4), 2);
        due("not written down", x.book(-1, 0), 0);
        due("refused", x.status(2) * 10 + x.status(0), 12);
    }

    private static void writing() {
        start("13 write");
        due("none told", x.write(0), -1);
        word("seen", 4, 0, 3);
        word("sea", 5, 1, 2);
        word("see", 6, 2, 1);
        x.sense(3, 0, 1, 2, 0, 0);
        x.sense(1, 9, 0, 0, 0, 0);
        x.made(4, 2, 5);
        lose("e");
        due("write", x.write(0), 3 + 2 + 2 + 5 + 1);
        due("s", x.use(18), 3);
        due("n", x.use(13), 1);
        due("a", x.use(0), 1);
        due("e is lost", x.use(4), 0);
        due("c for the e of kind 5 alone", x.use(2), 1);
        due("seconds", x.is(2), 12 + 18);
        due("book", x.book(0, 0) * 1000 + x.book(0, 1) * 100 + x.book(0, 2) * 10, 0);
        due("how much", x.book(0, 3), 13);
        due("steps", x.about(4), 2);
        due("it can't be", x.write(1), -1);
        due("no such", x.write(2), -1);
        due("-1", x.write(-1), -1);
        due("nothing is written down", x.book(-1, 0), 1);
        due("steps", x.about(4), 2);
        due("refused", x.status(0) * 10 + x.status(2), 31);
        due("the day stays", x.is(0), 0);
        start("13 write: 9999 at most");
        word("aaaaaaaaa", 0, 0, 0);
        word("zzzzzzzzz", 6, 1, 0);
        x.sense(5, 0, 0, 0, 0, 0);
        x.sense(5, 1, 1, 1, 1, 1);
        lose("z");
        for (int i = 0; i < 230; i++) {
            x.write(0);
            if (i < 30) {
                x.write(1);
            }
            if (i == 221) {
                due("use", x.use(0), 222 * 45);
            }
        }
        due("use", x.use(0), 9999);
        due("seconds", x.is(2), 9999);
    }

    private static void days() {
        start("14 week");
        due("0", x.week(0), -1);
        due("41", x.week(41), -1);
        due("-1", x.week(-1), -1);
        due("refused", x.status(0), 3);
        due("no sentences", x.week(1), 0);
        due("day", x.is(0), 1);
        due("x", x.is(3), 3459);
        due("nothing is written down", x.book(-1, 0), 0);
        due("x", x.week(1) + x.is(3), 16621);
        start("14 week: a lost key's draw");
        lose("r");
        due("letter 17 is lost", x.week(1), 1);
        due("x has gone one step", x.is(3), 10006);
        start("14 week: sentences by day");
        word("go", 0, 0, 3);
        word("up", 0, 1, 1);
        x.sense(1, 0, 0, 0, 0, 0);
        x.sense(1, 5, 0, 0, 0, 0);
        x.sense(1, 1, 0, 0, 0, 0);
        rule("wears 0;");
        due("week", x.week(4), 0);
        int[][] lines = {{0, 0, 0, 3}, {1, 1, 1, 0}, {2, 2, 0, 1}, {3, 0, 0, 3}};
        due("book", x.book(-1, 0), 4);
        for (int i = 0; i < 4; i++) {
            for (int what = 0; what < 4; what++) {
                due("book " + i + " " + what, x.book(i, what), lines[i][what]);
            }
        }
        due("g", x.use(6), 2);
        due("u", x.use(20), 1);
        due("steps", x.about(4), 4);
        start("14 week: a key goes");
        rule("wears 10;");
        due("week", x.week(2), 2);
        due("lost", x.is(1), 1 << 17 | 1 << 1);
        due("book", x.book(0, 0) * 1000 + x.book(0, 1) * 10 + x.book(0, 2), 172);
        due("book", x.book(1, 0) * 1000 + x.book(1, 1) * 10 + x.book(1, 2), 1012);
        due("40 days", x.week(40) > 10, true);
        due("day", x.is(0), 42);
    }

    private static void lastDay() {
        start("14 week: 9999");
        word("go", 0, 0, 3);
        x.sense(1, 0, 0, 0, 0, 0);
        int t = text("wears 0;" + times(24, "week 40;").substring(0, 23 * 8));
        x.by(t);
        for (int i = 0; i < 10; i++) {
            due("played", x.played(t), -1);
        }
        due("day", x.is(0), 9200);
        for (int i = 0; i < 19; i++) {
            x.week(40);
        }
        due("day", x.is(0), 9960);
        due("beyond", x.week(40), -1);
        due("nothing is done", x.is(0), 9960);
        due("it can't be now", x.status(2), 1);
        due("39", x.week(39), 0);
        due("day", x.is(0), 9999);
        due("at 9999", x.week(1), -1);
        due("refused", x.status(2), 2);
        due("use", x.use(6), 9999);
        for (int i = 0; i < 5; i++) {
            x.undo();
        }
        due("day", x.is(0), 9994);
        due("played: those that can pass do", x.played(t), 1);
        due("day", x.is(0), 9999);
        due("refused", x.status(2), 3);
        due("steps", x.about(4), 30);
        due("none can pass", x.played(t), 1);
        due("refused", x.status(2), 4);
    }

    private static void undoing() {
        start("15 undo");
        due("none", x.undo(), -1);
        word("go", 0, 0, 3);
        x.sense(1, 0, 0, 0, 0, 0);
        rule("wears 10;");
        lose("e");
        x.write(0);
        x.week(2);
        due("book", x.book(-1, 0), 5);
        word("up", 0, 1, 0);
        x.made(1, 2, 3);
        due("undo a day", x.undo(), 3);
        due("day", x.is(0), 1);
        due("x", x.is(3), 3459);
        due("lost", x.is(1), 1 << 17 | 1 << 4);
        due("book", x.book(-1, 0), 3);
        due("use", x.use(6), 2);
        due("undo a day", x.undo(), 2);
        due("x", x.is(3), 173);
        due("lost", x.is(1), 1 << 4);
        due("undo the writing", x.undo(), 1);
        due("use", x.use(6), 0);
        due("book", x.book(-1, 0), 0);
        due("undo the key", x.undo(), 0);
        due("lost", x.is(1), 0);
        due("none", x.undo(), -1);
        due("all else stays", x.about(0), 2);
        due("all else stays", x.letters(1), 4);
        due("all else stays", x.about(3), 0);
        start("15 undo: the latest 30");
        word("go", 0, 0, 3);
        x.sense(1, 0, 0, 0, 0, 0);
        x.week(40);
        due("steps", x.about(4), 30);
        due("lines", x.book(-1, 0), 30);
        int eldest = x.book(0, 0);
        for (int i = 29; i >= 0; i--) {
            due("undo", x.undo(), i);
        }
        due("none", x.undo(), -1);
        due("day", x.is(0), 10);
        due("lines", x.book(-1, 0), 10);
        due("the lines are back", x.book(0, 0), 0);
        due("eldest was later", eldest > 0, true);
        start("15 undo: lines that were dropped are back");
        rule("wears if day>=40 then 10 else 0 end;");
        word("go", 4, 0, 3);
        x.sense(1, 0, 0, 0, 0, 0);
        x.week(40);
        due("eldest", x.book(0, 0), 10);
        x.week(30);
        due("eldest", x.book(0, 0) > 40, true);
        for (int i = 0; i < 30; i++) {
            x.undo();
        }
        for (int i = 0; i < 30; i++) {
            due("line " + i, x.book(i, 0) * 10 + x.book(i, 2), (10 + i) * 10);
        }
        due("seconds", x.is(2), 0);
        start("15 undo: seconds");
        word("go", 6, 0, 3);
        x.sense(1, 0, 0, 0, 0, 0);
        lose("g");
        x.write(0);
        due("seconds", x.is(2), 9);
        x.undo();
        due("seconds", x.is(2), 0);
    }

    private static void toldAndStiff() {
        start("16 told");
        due("none", x.told(0, 0), -1);
        for (int kind = 0; kind < 7; kind++) {
            word("seed", kind, kind, 5);
        }
        int[] extra = {0, 1, 2, 4, 0, 0, 0};
        for (int kind = 0; kind < 7; kind++) {
            due("kind", x.told(kind, 0), kind);
            due("sense", x.told(kind, 1), kind);
            due("stiff", x.told(kind, 2), 5);
            due("letters", x.told(kind, 3), 4);
            due("holes", x.told(kind, 4), 0);
            due("seconds", x.told(kind, 5), 0);
            due("can", x.told(kind, 6), 1);
            due("extra", x.told(kind, 7), extra[kind]);
            due("first", x.told(kind, 8), 18);
            due("last", x.told(kind, 11), 3);
            due("no more", x.told(kind, 12), -1);
            due("-1", x.told(kind, -1), -1);
            due("17 stiff", x.stiff(kind), 5 + extra[kind]);
        }
        due("no word", x.told(7, 0), -1);
        due("-1", x.told(-1, 0), -1);
        due("17 stiff of none", x.stiff(7), -1);
        due("17 stiff of -1", x.stiff(-1), -1);
        lose("e");
        int[] can = {0, 0, 0, 0, 1, 0, 1};
        int[] seconds = {0, 0, 0, 0, 12, 0, 18};
        extra[4] = 2;
        for (int kind = 0; kind < 7; kind++) {
            due("holes", x.told(kind, 4), 2);
            due("can", x.told(kind, 6), can[kind]);
            due("seconds", x.told(kind, 5), seconds[kind]);
            due("extra", x.told(kind, 7), extra[kind]);
            due("17 stiff", x.stiff(kind), 5 + extra[kind]);
        }
        x.made(4, 14, 3);
        due("can", x.told(5, 6), 1);
        due("look, each time", x.told(5, 7), 6);
        due("17 stiff", x.stiff(5), 11);
        due("plain can't", x.told(0, 6), 0);
        lose("o");
        due("made of a lost one", x.told(5, 6), 0);
        due("extra as if it could", x.told(5, 7), 6);
        lose("d");
        due("d isn't made", x.told(5, 7), 6);
        due("holes", x.told(5, 4), 3);
    }

    private static void least() {
        start("18 least, 19 sentence, 20 states");
        due("none told", x.least(0, 0), -1);
        due("none told", x.sentence(0, 0), -1);
        due("none told", x.states(0, 0, 0), -1);
        word("aa", 0, 0, 2);
        word("b", 0, 0, 4);
        word("ccc", 0, 0, 2);
        x.sense(3, 0, 0, 0, 0, 0);
        due("aa ccc aa", x.least(0, 0), 6);
        due("first", x.sentence(0, 0), 0);
        due("second", x.sentence(0, 1), 2);
        due("third", x.sentence(0, 2), 0);
        due("letters", x.least(0, 2), 7);
        due("seconds", x.least(0, 1), 0);
        due("what 3", x.least(0, 3), -1);
        due("what -1", x.least(0, -1), -1);
        due("no sentence", x.least(1, 0), -1);
        due("-1", x.least(-1, 0), -1);
        due("how many", x.sentence(0, -1), 3);
        due("place 3", x.sentence(0, 3), -1);
        due("place -2", x.sentence(0, -2), -1);
        due("no sentence", x.sentence(1, -1), -1);
        due("state", x.states(0, 0, 1), 4);
        due("state", x.states(0, 1, 0), 4);
        due("state", x.states(0, 2, 1), 8);
        due("no word", x.states(0, 0, 3), -1);
        due("word -1", x.states(0, 0, -1), -1);
        due("place 3", x.states(0, 3, 0), -1);
        due("place -1", x.states(0, -1, 0), -1);
        due("no sentence", x.states(1, 0, 0), -1);
        lose("c");
        due("aa b aa", x.least(0, 0), 8);
        due("second", x.sentence(0, 1), 1);
        due("ccc can't be", x.states(0, 1, 2), -1);
        lose("b");
        due("aa aa aa: 3 more for each", x.least(0, 0), 12);
        due("state", x.states(0, 1, 0), 7);
        start("20 states: the least word beside itself");
        word("a", 0, 0, 5);
        word("b", 0, 0, 3);
        word("c", 2, 1, 5);
        word("d", 2, 1, 3);
        x.sense(3, 0, 0, 0, 0, 0);
        x.sense(3, 1, 1, 1, 0, 0);
        x.sense(2, 0, 1, 0, 0, 0);
        due("a b", x.states(0, 1, 1), 8);
        due("b a", x.states(0, 1, 0), 8);
        due("b a b", x.states(0, 2, 1), 11);
        due("c d: 1 more", x.states(1, 1, 3), 13);
        due("d c d", x.states(1, 2, 3), 19);
        due("b d", x.states(2, 1, 3), 8);
        start("18 least: turned ones");
        word("x", 2, 0, 0);
        word("y", 2, 0, 0);
        word("z", 1, 0, 0);
        x.sense(2, 0, 0, 0, 0, 0);
        due("x z", x.least(0, 0), 2 + 1);
        due("second", x.sentence(0, 1), 2);
        lose("z");
        due("x y: 1 more", x.least(0, 0), 5);
        lose("x");
        due("y y: 3 more and no 1", x.least(0, 0), 7);
        start("18 least: of like ones the lowest");
        word("x", 2, 0, 0);
        word("y", 2, 0, 0);
        word("z", 2, 1, 1);
        word("w", 0, 1, 4);
        x.sense(2, 0, 1, 0, 0, 0);
        due("x z or x w", x.least(0, 0), 6);
        due("first", x.sentence(0, 0), 0);
        due("second", x.sentence(0, 1), 2);
        due("the same letters are another word", word("x", 2, 1, 0), 4);
        due("least", x.least(0, 0), 5);
        due("second", x.sentence(0, 1), 4);
        start("18 least: seconds");
        word("see", 4, 0, 0);
        word("bee", 6, 0, 0);
        x.sense(2, 0, 0, 0, 0, 0);
        lose("e");
        due("stiffness", x.least(0, 0), 2);
        due("seconds", x.least(0, 1), 30);
        due("first", x.sentence(0, 0), 0);
        start("18 least: by the law");
        word("see", 0, 0, 0);
        word("bee", 0, 0, 9);
        x.sense(1, 0, 0, 0, 0, 0);
        due("least", x.sentence(0, 0), 0);
        rule("stiff 9-told;");
        due("least", x.sentence(0, 0), 1);
        due("least", x.least(0, 0), 0);
        x.sense(5, 0, 0, 0, 0, 0);
        rule("stiff 200;");
        due("five places", x.least(1, 0), 495);
    }

    private static void unsayable() {
        start("21 none");
        due("none", x.none(), 0);
        word("a", 0, 0, 0);
        word("b", 0, 1, 0);
        x.sense(2, 0, 1, 0, 0, 0);
        x.sense(1, 0, 0, 0, 0, 0);
        x.sense(1, 2, 0, 0, 0, 0);
        x.sense(2, 1, 2, 0, 0, 0);
        due("none", x.none(), 12);
        due("19 how many", x.sentence(3, -1), -1);
        due("20 states up to a place", x.states(3, 0, 1), 0);
        lose("a");
        due("none", x.none(), 15);
        due("20 a place ahead has none", x.states(0, 1, 1), -1);
    }

    private static void worstAndFew() {
        start("22 worst, 23 few");
        word("ab", 0, 0, 0);
        word("bc", 0, 0, 7);
        word("d", 0, 1, 2);
        word("e", 0, 1, 60 / 10);
        x.sense(1, 0, 0, 0, 0, 0);
        x.sense(1, 1, 0, 0, 0, 0);
        due("b: 50 + 2", x.worst(), 1);
        due("b and d: 50 + 6", x.few(false), 1);
        due("b and d", x.few(true), 3);
        lose("b");
        due("d: 50 + 6", x.worst(), 3);
        due("d and e: 100", x.few(false) * 100 + x.few(true), 304);
        lose("acdefghijklmnopqrstuvwxy");
        due("z is left", x.worst(), 25);
        due("no two are left", x.few(false), -1);
        due("no two are left", x.few(true), -1);
        lose("z");
        due("none is left", x.worst(), -1);
        due("none", x.few(false), -1);
        start("22 worst: the law asks how many are lost");
        word("ab", 0, 0, 5);
        word("c", 4, 0, 9);
        x.sense(1, 0, 0, 0, 0, 0);
        rule("stiff if lost=1 then if kind=4 then 30 else told end else 0 end;");
        due("a: 30", x.worst(), 0);
        due("few: all 0 or 50 aside", x.few(false) * 100 + x.few(true), 1);
        start("22 worst: what can't be said is 50");
        word("a", 0, 0, 9);
        word("b", 0, 1, 1);
        word("bbbbbb", 3, 1, 9);
        x.sense(1, 0, 0, 0, 0, 0);
        x.sense(5, 1, 1, 1, 1, 1);
        rule("stiff if kind=0 then told else 20 end;");
        due("b: 9 + 50; a: 50 + 17", x.worst(), 0);
        rule("stiff if kind=0 then told else 0 end;");
        due("a: 50 + 2; b: 9 + 50", x.worst(), 1);
        rule("stiff if kind=0 then told+lost*60 else 99 end;");
        due("the law is asked anew: a: 50 + 317; b: 69 + 50; c: 69 + 317", x.worst(), 2);
        x.by(-1);
        due("few", x.few(false) * 100 + x.few(true), 1);
        rule("stiff if lost=2 then if kind=0 then 60 else 0 end else 0 end;");
        due("few: the law is asked anew: a, b: 100; b, c: 60 + 50", x.few(false) * 100 + x.few(true), 102);
        start("23 few: like ones");
        word("c", 0, 0, 0);
        x.sense(1, 0, 0, 0, 0, 0);
        due("a and c", x.few(false) * 100 + x.few(true), 2);
        due("worst", x.worst(), 2);
    }

    private static void presses() {
        start("24 spare, 25 now, 26 exact");
        word("seed", 5, 0, 0);
        word("bed", 4, 1, 0);
        x.sense(2, 0, 1, 0, 0, 0);
        x.sense(1, 0, 0, 0, 0, 0);
        x.sense(1, 7, 0, 0, 0, 0);
        due("now e", x.now(4), 5);
        due("now d", x.now(3), 3);
        due("spare", x.spare(), 4);
        due("now 26", x.now(26), -1);
        due("now -1", x.now(-1), -1);
        due("use stays", x.use(4), 0);
        x.made(4, 25, 0);
        lose("e");
        due("now e", x.now(4), 0);
        due("now z: for the two made ones", x.now(25), 4);
        due("spare", x.spare(), 25);
        int[] order = {25, 3, 18, 1, 0, 2, 5};
        for (int i = 0; i < order.length; i++) {
            due("exact " + i, x.exact(i), order[i]);
        }
        due("exact 24", x.exact(24), 24);
        due("exact 25", x.exact(25), -1);
        due("exact -1", x.exact(-1), -1);
        start("24 spare: all 0");
        word("a", 6, 0, 0);
        x.sense(1, 0, 0, 0, 0, 0);
        lose("a");
        due("spare", x.spare(), -1);
        due("exact", x.exact(0), 1);
    }

    private static void longer() {
        start("27 longer");
        due("nothing", x.longer(), 0);
        word("e", 0, 0, 0);
        word("long", 0, 0, 5);
        word("evening", 0, 1, 0);
        word("dusk", 0, 1, 5);
        word("eel", 0, 2, 0);
        x.sense(2, 0, 1, 0, 0, 0);
        x.sense(1, 2, 0, 0, 0, 0);
        x.sense(2, 0, 0, 0, 0, 0);
        due("no key is lost", x.longer(), 0);
        lose("e");
        due("8 against 8, 8 against 2; the other can't be said", x.longer(), 6);
    }

    private static void whoseLaw() {
        start("28 law, 29 stiffs");
        due("no texts", x.law(), 0);
        word("abc", 1, 0, 3);
        text("stiff told*2;");
        text("stiff told+3;");
        text("wears 1;");
        text("stiff if lost=0 then 4 else 6 end;");
        due("none heard", x.law(), 15);
        due("stiffs", x.stiffs(0, 6), 1);
        due("law", x.law(), 3);
        lose("z");
        due("law as now", x.law(), 11);
        due("stiffs", x.stiffs(0, 5), 2);
        due("not both", x.law(), 0);
        due("about", x.about(7), 2);
        due("none any more", x.stiffs(-1, 1000), 0);
        due("stiffs", x.stiffs(0, 4), 1);
        due("without stiff: told and extra", x.law(), 4);
        due("no word", x.stiffs(1, 5), -2);
        due("word -2", x.stiffs(-2, 5), -2);
        due("stiff 100", x.stiffs(0, 100), -2);
        due("stiff -1", x.stiffs(0, -1), -2);
        for (int i = 2; i <= 8; i++) {
            due("stiffs", x.stiffs(0, i == 2 ? 99 : 0), i);
        }
        due("the 9th", x.stiffs(0, 0), -2);
        due("not in status", x.status(0) + x.status(1), 0);
    }

    private static void noticing() {
        start("30 notices, 31 lines, 32 held");
        word("a", 0, 0, 8);
        word("b", 0, 1, 7);
        x.sense(1, 0, 0, 0, 0, 0);
        x.sense(1, 5, 0, 0, 0, 0);
        x.sense(1, 1, 0, 0, 0, 0);
        x.sense(5, 0, 0, 0, 0, 0);
        due("0 lines", x.notices(0, false) * 10 + x.notices(0, true), 1);
        due("1 line: 2 of 10", x.notices(1, false) * 10 + x.notices(1, true), 15);
        due("2 lines: 28 of 100", x.notices(2, false) * 100 + x.notices(2, true), 725);
        due("3 lines: 10 of 10", x.notices(3, false) * 10 + x.notices(3, true), 11);
        due("4 lines", x.notices(4, false), -1);
        due("4 lines", x.notices(4, true), -1);
        due("-1", x.notices(-1, true), -1);
        due("9", x.notices(9, true), -1);
        due("p 0", x.lines(0), 0);
        due("p 1", x.lines(1), 1);
        due("p 20", x.lines(20), 1);
        due("p 21", x.lines(21), 2);
        due("p 28", x.lines(28), 2);
        due("p 29", x.lines(29), 3);
        due("p 100", x.lines(100), 3);
        due("p 101", x.lines(101), -1);
        due("p -1", x.lines(-1), -1);
        due("held", x.held(), 2);
        rule("notices line*3+1;");
        due("by line: 1 - 9/10 6/10 3/10 = 838/1000", x.notices(3, false) * 1000 + x.notices(3, true), 419500);
        due("held: of like ones the lowest", x.held(), 0);
        rule("notices if total=8 then 20 else seconds+lost+day-1 end;");
        due("10 at most", x.notices(1, false) * 10 + x.notices(1, true), 11);
        due("held: 0 at least", x.held(), 2);
        due("p 100", x.lines(100), 1);
        rule("notices if line=0 then total else 9-total end;");
        due("held: as line 0", x.held(), 2);
        start("30 notices: the names");
        word("a", 6, 0, 0);
        x.sense(1, 0, 0, 0, 0, 0);
        rule("wears 0;notices lost;");
        due("lost", x.notices(1, false), 0);
        lose("abc");
        due("lost", x.notices(1, false) * 100 + x.notices(1, true), 310);
        x.week(7);
        rule("notices day;");
        due("day", x.notices(1, false) * 100 + x.notices(1, true), 710);
        rule("notices seconds;");
        due("seconds", x.notices(1, false) * 100 + x.notices(1, true), 910);
        start("30 notices: eight lines");
        word("a", 0, 0, 4);
        for (int i = 0; i < 8; i++) {
            x.sense(1, 0, 0, 0, 0, 0);
        }
        due("lower", x.notices(8, true), 100000000L);
        due("upper", x.notices(8, false), 100000000L - 43046721L);
        due("p 56", x.lines(56), 8);
        due("p 57", x.lines(57), -1);
    }

    private static void strangePage() {
        start("33 page, 34 wrote, 35 fewest");
        due("no word", x.page(0), -2);
        due("all sets", x.wrote(0), 351);
        due("in all", x.wrote(1), 0);
        due("in none", x.wrote(2), 0);
        due("wrote 3", x.wrote(3), -1);
        due("wrote -1", x.wrote(-1), -1);
        due("no words", x.fewest(), -1);
        word("abcdefghi", 0, 0, 0);
        word("jklmnopqr", 1, 0, 0);
        word("stuvwx", 3, 0, 0);
        word("y", 2, 0, 0);
        word("z", 4, 0, 0);
        word("zzy", 0, 0, 0);
        due("fewest", x.fewest(), 0);
        due("page", x.page(0), 1);
        due("sets", x.wrote(0), 17 + 17 * 16 / 2);
        due("fewest", x.fewest(), 1);
        due("page", x.page(1), 2);
        due("page", x.page(2), 3);
        due("page", x.page(4), 4);
        due("a holed one tells nothing", x.wrote(0), 3);
        due("in all", x.wrote(1), 0);
        due("in none", x.wrote(2), (1 << 24) - 1);
        due("fewest: zzy has two", x.fewest(), 5);
        due("page", x.page(3), 5);
        due("one set", x.wrote(0), 1);
        due("in all", x.wrote(1), 1 << 25);
        due("in none", x.wrote(2), (1 << 25) - 1);
        due("fewest", x.fewest(), 5);
        due("page", x.page(5), 6);
        due("no sets", x.wrote(0), 0);
        due("in all", x.wrote(1), 0);
        due("in none", x.wrote(2), (1 << 26) - 1);
        due("fewest", x.fewest(), -1);
        due("page", x.page(5), 7);
        due("page", x.page(5), 8);
        due("the 9th", x.page(5), -2);
        due("no room", x.status(1), 1);
        due("no word", x.page(6), -2);
        due("-2", x.page(-2), -2);
        due("refused", x.status(0), 3);
        due("about", x.about(5), 8);
        due("none any more", x.page(-1), 0);
        due("sets", x.wrote(0), 351);
    }

    private static void madeLetters() {
        start("36 letters, 37 lot");
        x.made(0, 1, 1);
        x.made(1, 2, 1);
        x.made(2, 3, 1);
        x.made(3, 1, 1);
        due("a: b c d", x.letters(0), 14);
        due("b: c d", x.letters(1), 12);
        due("e", x.letters(4), 0);
        due("26", x.letters(26), -1);
        due("-1", x.letters(-1), -1);
        start("37 lot");
        word("deceived", 0, 0, 0);
        due("nothing is lost", x.lot(0), -1);
        due("no word", x.lot(1), -1);
        due("-1", x.lot(-1), -1);
        lose("cdev");
        due("nothing is made", x.lot(0), -1);
        x.made(2, 25, 3);
        due("c", x.lot(0), 2);
        x.made(3, 4, 0);
        due("d is made of a lost one", x.lot(0), 2);
        x.made(3, 24, 3);
        x.made(4, 25, 3);
        due("c d e: 173 mod 3 = 2", x.lot(0), 4);
        x.made(21, 25, 2);
        due("v has the least", x.lot(0), 21);
        x.made(21, 25, 3);
        due("c d e v: 173 mod 4 = 1", x.lot(0), 3);
        x.made(8, 25, 0);
        due("i isn't lost", x.lot(0), 3);
    }

    private static void telegraph() {
        start("38 wire, 39 worth, 40 line");
        due("none told", x.wire(0), -1);
        due("none told", x.worth(0), -1);
        word("eel", 4, 0, 0);
        word("eve", 6, 1, 0);
        word("sea", 4, 2, 0);
        word("did", 2, 3, 0);
        x.sense(2, 0, 0, 0, 0, 0);
        x.sense(1, 1, 0, 0, 0, 0);
        x.sense(2, 2, 3, 0, 0, 0);
        x.sense(1, 9, 0, 0, 0, 0);
        x.sense(3, 0, 2, 0, 0, 0);
        x.sense(2, 0, 0, 0, 0, 0);
        lose("e");
        int[] pence = {4, 2, 5, -1, 6, 4};
        int[] worth = {24, 18, 6, -1, 30, 24};
        for (int i = 0; i < 6; i++) {
            due("wire " + i, x.wire(i), pence[i]);
            due("worth " + i, x.worth(i), worth[i]);
        }
        due("wire 6", x.wire(6), -1);
        due("wire -1", x.wire(-1), -1);
        due("worth 6", x.worth(6), -1);
        due("0", x.line(0, false) + x.line(0, true), 0);
        due("2", x.line(2, false) * 1000 + x.line(2, true), 2018);
        due("4: of like ones the lowest set", x.line(4, false) * 1000 + x.line(4, true), 1024);
        due("5", x.line(5, false) * 1000 + x.line(5, true), 1024);
        due("6", x.line(6, false) * 1000 + x.line(6, true), 3042);
        due("999", x.line(999, false) * 1000 + x.line(999, true), (1 + 2 + 4 + 16 + 32) * 1000 + 102);
        due("1000", x.line(1000, true), -1);
        due("-1", x.line(-1, false), -1);
        start("40 line: the fewest pence");
        word("ee", 6, 0, 0);
        word("eee", 4, 1, 0);
        word("did", 2, 2, 0);
        x.sense(2, 1, 2, 0, 0, 0);
        x.sense(1, 0, 0, 0, 0, 0);
        lose("e");
        due("both save 18", x.line(6, false) * 1000 + x.line(6, true), 2018);
        x.sense(1, 2, 0, 0, 0, 0);
        due("one that saves nothing isn't wired", x.line(999, false), 3);
    }

    private static void sensesSaid() {
        start("41 all, 42 senses");
        due("all", x.all(), 0);
        due("senses", x.senses(), 4095);
        word("a", 0, 0, 0);
        word("a", 4, 5, 0);
        word("a", 0, 11, 0);
        word("b", 0, 11, 0);
        due("all", x.all(), 3);
        due("senses", x.senses(), 4095 - 1 - 32 - 2048);
        lose("a");
        due("all", x.all(), 2);
        due("senses", x.senses(), 4095 - 32 - 2048);
    }

    private static void reports() {
        start("43 report, 44 clear, 45 meant, 46 fits");
        due("no tape", x.report(), -1);
        word("dusk", 0, 0, 0);
        word("disk", 0, 1, 0);
        word("did", 0, 2, 0);
        word("dusk", 1, 3, 0);
        x.sense(1, 0, 0, 0, 0, 0);
        x.sense(1, 1, 0, 0, 0, 0);
        x.sense(2, 3, 2, 0, 0, 0);
        x.sense(2, 2, 2, 0, 0, 0);
        due("no words", x.fits(), 0);
        due("meant", x.meant(0), -1);
        tape("d-sk");
        due("report", x.report(), 1);
        due("the tape is empty", x.about(8), 0);
        due("meant", x.meant(0), 11);
        due("fits", x.fits(), 3);
        tape("---");
        due("report", x.report(), 2);
        due("meant", x.meant(1), 4);
        due("meant 2", x.meant(2), -1);
        due("meant -1", x.meant(-1), -1);
        due("fits", x.fits(), 4);
        tape("dusk");
        due("report", x.report(), 3);
        due("meant", x.meant(2), 9);
        due("fits", x.fits(), 0);
        tape("zzz");
        due("report", x.report(), 4);
        due("meant", x.meant(3), 0);
        tape("---------");
        due("report", x.report(), 5);
        tape("a");
        due("the 6th", x.report(), -1);
        due("the tape stays", x.about(8), 1);
        due("no room", x.status(1), 1);
        tape("----------");
        due("10 bytes", x.report(), -1);
        due("the tape stays", x.about(8), 10);
        tape("a?");
        due("a ?", x.report(), -1);
        tape("A");
        due("a large one", x.report(), -1);
        due("refused", x.status(0), 4);
        due("about", x.about(6), 5);
        due("clear", x.clear(), 0);
        due("about", x.about(6), 0);
        due("meant", x.meant(0), -1);
    }

    private static void bookLines() {
        start("47 is, 48 use, 49 book");
        due("is 4", x.is(4), -2);
        due("is -1", x.is(-1), -2);
        due("use 26", x.use(26), -1);
        due("use -1", x.use(-1), -1);
        due("use 25", x.use(25), 0);
        due("book 0", x.book(0, 0), -2);
        word("go", 0, 0, 3);
        x.sense(1, 0, 0, 0, 0, 0);
        for (int i = 0; i < 35; i++) {
            if (i % 7 == 6) {
                x.week(1);
            } else {
                x.write(0);
            }
        }
        due("the latest 30", x.book(-1, 9), 30);
        due("book 30", x.book(30, 0), -2);
        due("book -2", x.book(-2, 0), -2);
        due("what 4", x.book(0, 4), -2);
        due("what -1", x.book(0, -1), -2);
        due("the eldest is the 6th", x.book(0, 0), 0);
        due("day", x.book(2, 0), 1);
        due("the latest", x.book(29, 0), 4);
        due("lost", x.is(1), 0);
    }

    private static void images() {
        start("50 image, 51 restore");
        word("go", 0, 0, 3);
        x.sense(1, 0, 0, 0, 0, 0);
        word("stay", 0, 3, 8);
        rule("stiff told-2;wears 0;");
        x.made(0, 1, 2);
        x.page(0);
        x.stiffs(0, 1);
        due("law", x.law(), 1);
        tape("g-");
        x.report();
        lose("e");
        x.week(3);
        due("image", x.image(), 3);
        word("up", 0, 1, 0);
        x.sense(1, 1, 0, 0, 0, 0);
        text("stiff 2;");
        x.by(1);
        x.made(0, 2, 3);
        x.made(7, 8, 1);
        x.page(-1);
        x.page(1);
        x.stiffs(-1, 0);
        x.stiffs(1, 44);
        x.clear();
        tape("-");
        x.report();
        lose("f");
        x.week(9);
        x.key(5);
        faulty("lose 5", 1, 5);
        tape("tape");
        for (int again = 0; again < 2; again++) {
            due("restore", x.restore(), 3);
            due("words", x.about(0), 2);
            due("sentences", x.about(1), 1);
            due("texts", x.about(2), 1);
            due("the text", x.about(3), 0);
            due("steps", x.about(4), 4);
            due("page", x.about(5), 1);
            due("report", x.about(6), 1);
            due("heard", x.about(7), 1);
            due("the tape stays", x.about(8), 4);
            due("the fault stays", x.fault(1), 5);
            due("status stays", x.status(2), 1);
            due("made", x.letters(0), 2);
            due("made", x.letters(7), 0);
            due("meant", x.meant(0), 1);
            due("law", x.law(), 1);
            due("wrote", x.wrote(2), bits("go"));
            due("lost", x.is(1), 16);
            due("use", x.use(6), 3);
            due("book", x.book(-1, 0), 3);
            due("undo", x.undo(), 3);
            due("day", x.is(0), 2);
            due("another word in its place", word("no", 1, 2, 4), 2);
            due("its kind", x.told(2, 0), 1);
            due("another text in its place", text("stiff 5;"), 1);
            x.by(1);
            due("stiff", x.stiff(0), 5);
            faulty("lose 5", 1, 5);
            tape("tape");
        }
    }

    private static void statusOf() {
        start("52 status");
        due("3", x.status(3), -2);
        due("-1", x.status(-1), -2);
        x.key(77);
        x.key(1);
        x.key(1);
        due("0", x.status(0), 1);
        due("1", x.status(1), 0);
        due("2", x.status(2), 1);
        x.restore();
        due("in no image", x.status(0) + x.status(2), 2);
        x.by(9);
        x.played(9);
        x.end(-1);
        x.undo();
        x.text();
        x.stiffs(99, 0);
        x.least(9, 9);
        due("no others count", x.status(0) + x.status(1) + x.status(2), 2);
    }

    private static void about() {
        start("53 about");
        due("9", x.about(9), -2);
        due("-1", x.about(-1), -2);
        word("a", 0, 0, 0);
        word("b", 0, 0, 0);
        x.sense(1, 0, 0, 0, 0, 0);
        x.sense(1, 0, 0, 0, 0, 0);
        x.sense(1, 0, 0, 0, 0, 0);
        rule("");
        lose("zyxw");
        for (int i = 0; i < 5; i++) {
            x.page(0);
        }
        tape("a");
        x.report();
        x.stiffs(0, 0);
        tape("four");
        int[] want = {2, 3, 1, 0, 4, 5, 1, 1, 4};
        for (int what = 0; what < want.length; what++) {
            due("about " + what, x.about(what), want[what]);
        }
    }
}
