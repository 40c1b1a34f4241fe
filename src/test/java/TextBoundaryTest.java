/** The boundaries that part II names: of texts, tokens, faults, laws and of what is played. */
public final class TextBoundaryTest extends Bench {
    public static void main(String[] args) {
        textsOf4();
        bytesOf300();
        blanks();
        letterBytes();
        digitBytes();
        theLongest();
        numbersTo9999();
        clausesOf24();
        noClauses();
        lawsOnce();
        sensesOf5();
        lettersOf9();
        letterOfOne();
        tokensThatMeanElse();
        tokensToTheirEnds();
        comparisons();
        eitherAndBoth();
        usesOf26();
        cutTowards0();
        byZero();
        millions();
        eachStep();
        notLookedAt();
        faultAtTheEnd();
        faultOneOrOthers();
        faultTwoOfEach();
        faultThree();
        faultThreeIsNotAround();
        faultFour();
        faultFive();
        faultSix();
        faultSeven();
        faultEight();
        theFirstFault();
        theTextAtFirst();
        stiffTo99();
        stiffWithout();
        wearsTo10();
        wearsByDraw();
        wearsWithout();
        wearsByNames();
        noticesTo10();
        noticesWithout();
        playedLawsAside();
        playedEnds();
        playedDays();
        playedMadeOfItself();
        finish("the boundaries of the texts hold");
    }

    private static int value(String sum) {
        x = new WithoutE();
        word("a", 0, 0, 0);
        rule("stiff " + sum + ";");
        return x.stiff(0);
    }

    private static void textsOf4() {
        start("TEXTS 0 .. 3");
        for (int i = 0; i < 4; i++) {
            due("by", x.by(i), false);
            due("played", x.played(i), -2);
            due("text", text("stiff " + i + ";"), i);
            due("by", x.by(i), true);
            due("played", x.played(i), -1);
        }
        due("texts", x.about(2), 4);
        due("the 5th", text("stiff 4;"), -1);
        due("no 5th", x.by(4), false);
        due("no 5th", x.played(4), -2);
        due("texts", x.about(2), 4);
        words(1);
        for (int i = 0; i < 4; i++) {
            x.by(i);
            due("each is its own", x.stiff(0), i);
        }
    }

    private static void bytesOf300() {
        start("TEXTS: of up to 300 bytes");
        String tail = "+1;";
        String law = "stiff 1" + times(145, "+1") + tail;
        due("300", law.length(), 300);
        due("text", text(law), 0);
        x.by(0);
        words(1);
        due("all of it is read", x.stiff(0), 99);
        String counted = "stiff 0-49" + times(144, "+1") + ";";
        due("299", counted.length(), 299);
        due("text", text(counted), 1);
        x.by(1);
        due("all of it is read", x.stiff(0), 95);
        due("the last byte", text(law.substring(0, 299) + "?"), -1);
        due("fault", x.fault(1), 299);
        due("the end", text(law.substring(0, 299) + "1"), -1);
        due("fault", x.fault(1), 300);
        faulty(times(296, " ") + "stif", 1, 296);
        faulty(times(289, " ") + "stiff if 1<", 1, 300);
        faulty(times(288, " ") + "stiff if 1<=", 1, 300);
        faulty(times(292, " ") + "stiff da", 1, 298);
        faulty(times(291, " ") + "stiff day", 1, 300);
        faulty(times(293, " ") + "stiff -", 1, 300);
        faulty(times(294, " ") + "say 99", 2, 298);
        due("no bytes", text(""), 2);
        due("blanks alone", text(times(300, " ")), 3);
    }

    private static void blanks() {
        start("TOKENS, blanks (32, 10) aside");
        good("\n\n lose\n\na\n \n;\n");
        good("lose a;");
        for (char c : new char[] {0, 9, 11, 12, 13, 31, 33, 127, 160, 255}) {
            faulty("lose " + c + "a;", 1, 5);
            faulty("lose" + c + "a;", 1, 4);
        }
        faulty("l ose a;", 1, 0);
        faulty("losea;", 1, 0);
        faulty("stiff 1 1;", 1, 8);
        good("stiff if 1 <= 2 then 1 else 1 end;");
        faulty("stiff if 1 < = 2 then 1 else 1 end;", 1, 13);
    }

    private static void letterBytes() {
        start("letters a .. z, A .. Z one behind the other (one TOKEN)");
        good("lose a;");
        good("lose z;");
        for (char c : new char[] {'A', 'Z'}) {
            faulty("lose " + c + ";", 7, 5);
        }
        for (char c : new char[] {'@', '[', '`', '{'}) {
            faulty("lose " + c + ";", 1, 5);
            faulty("lose a" + c + ";", 1, 6);
        }
        faulty("lose aZ;", 7, 5);
        faulty("stiff daY;", 1, 6);
    }

    private static void digitBytes() {
        start("digits likewise (NUMBERS)");
        good("stiff 0;");
        good("stiff 9;");
        faulty("stiff :;", 1, 6);
        faulty("stiff 9:;", 1, 7);
        faulty("stiff /;", 1, 6);
        faulty("stiff 1_0;", 1, 7);
        good("stiff 1+if 1=1then 2else 3end;");
        faulty("stiff 1a;", 1, 7);
    }

    private static void theLongest() {
        start("<= >= < > = # + - * / ( ) , ; (the longest)");
        for (String sign : new String[] {"<=", ">=", "<", ">", "=", "#"}) {
            good("stiff if 1" + sign + "2 then 1 else 1 end;");
        }
        faulty("stiff if 1<>2 then 1 else 1 end;", 1, 11);
        faulty("stiff if 1=<2 then 1 else 1 end;", 1, 11);
        faulty("stiff if 1<==2 then 1 else 1 end;", 1, 12);
        faulty("stiff if 1>>=2 then 1 else 1 end;", 1, 11);
        faulty("stiff if 1##2 then 1 else 1 end;", 1, 11);
        faulty("stiff if 1<", 1, 11);
        for (char c : "!\"$%&'.:?\\]^_|}~".toCharArray()) {
            faulty("stiff 1" + c + "2;", 1, 7);
        }
    }

    private static void numbersTo9999() {
        start("NUMBERS, 0 .. 9999");
        due("0", value("0"), 0);
        due("9999", value("9999/101"), 99);
        good("stiff 9999;");
        faulty("stiff 10000;", 2, 6);
        faulty("stiff 99999999999999999999999999;", 2, 6);
        faulty("stiff 4294967296;", 2, 6);
        faulty("stiff 18446744073709551617;", 2, 6);
        due("zeros ahead", value("00000000000000000000000012"), 12);
        faulty("stiff 000010000;", 2, 6);
    }

    private static void clausesOf24() {
        start("{CLAUSE}, 24 at most");
        good(times(23, "lose a;"));
        good(times(24, "lose a;"));
        faulty(times(25, "lose a;"), 6, 168);
        good("stiff 1;wears 1;notices 1;" + times(21, "lose a;"));
        faulty("stiff 1;wears 1;notices 1;" + times(22, "lose a;"), 6, 26 + 147);
        word("a", 0, 0, 0);
        due("text", text("stiff 1;" + times(22, "turn 0;") + "lose a;"), 0);
        due("the 24th is played", x.played(0), -1);
        due("lost", x.is(1), 1);
    }

    private static void noClauses() {
        start("{CLAUSE}: there may be none");
        due("text", text(""), 0);
        due("fault", x.fault(0), 0);
        due("played", x.played(0), -1);
        due("by", x.by(0), true);
        words(1);
        due("no law", x.stiff(0), 0);
        faulty(";", 1, 0);
        faulty("lose a;;", 1, 7);
    }

    private static void lawsOnce() {
        start("stiff SUM ; or wears SUM ; or notices SUM ; (each once)");
        good("stiff 1;wears 1;notices 1;");
        good("notices 1;wears 1;stiff 1;");
        good("lose a;stiff 1;lose a;");
        faulty("stiff 1;wears 1;notices 1;stiff 1;", 4, 26);
        faulty("stiff 1;wears 1;notices 1;wears 1;", 4, 26);
        faulty("stiff 1;wears 1;notices 1;notices 1;", 4, 26);
        good("lose a;lose a;");
    }

    private static void sensesOf5() {
        start("say NUMBER {, NUMBER} ; (SENSES, 1 to 5)");
        faulty("say ;", 1, 4);
        good("say 0;");
        good("say 0,1,2,3,11;");
        faulty("say 0,1,2,3,11,0;", 8, 14);
        faulty("say 0,1,2,3,;", 1, 12);
        due("text", text("say 11;say 0,1,2,3,11;"), 0);
        due("played", x.played(0), -1);
        word("a", 0, 11, 0);
        due("one place", x.sentence(0, -1), 1);
        for (int sense = 0; sense < 4; sense++) {
            word("a", 0, sense, 0);
        }
        due("five places", x.sentence(1, -1), 5);
        due("the last", x.sentence(1, 4), 0);
        due("the first", x.sentence(1, 0), 1);
    }

    private static void lettersOf9() {
        start("LETTERS: one TOKEN of 1 to 9 letters a .. z");
        due("text", text("word z kind 6 sense 11 stiff 9;word abcdefghz kind 1 sense 2 stiff 3;lose z;"), 0);
        due("played", x.played(0), -1);
        due("1", x.told(0, 3), 1);
        due("9", x.told(1, 3), 9);
        due("the first", x.told(1, 8), 0);
        due("the last", x.told(1, 16), 25);
        due("kind, sense, stiff", x.told(0, 0) * 1000 + x.told(0, 1) * 10 + x.told(0, 2), 6119);
        due("kind, sense, stiff", x.told(1, 0) * 1000 + x.told(1, 1) * 10 + x.told(1, 2), 1023);
        faulty("word abcdefghzz kind 0 sense 0 stiff 0;", 7, 5);
        faulty("word abcdefghZ kind 0 sense 0 stiff 0;", 7, 5);
        faulty("word Abc kind 0 sense 0 stiff 0;", 7, 5);
        faulty("word ab cd kind 0 sense 0 stiff 0;", 1, 8);
    }

    private static void letterOfOne() {
        start("LETTER: of one");
        due("text", text("make a of z look 0;make z of a look 9;lose z;"), 0);
        due("played", x.played(0), -1);
        due("a of z", x.letters(0), 1 << 25);
        due("z of a", x.letters(25), 1);
        due("lost", x.is(1), 1 << 25);
        faulty("lose zz;", 7, 5);
        faulty("make zz of a look 0;", 7, 5);
        faulty("make z of aa look 0;", 7, 10);
        faulty("lose ;", 1, 5);
        faulty("make of a look 0;", 7, 5);
        faulty("make a of look 0;", 7, 10);
    }

    private static void tokensThatMeanElse() {
        start("(whatever else that TOKEN may mean)");
        String[] tokens = {"stiff", "wears", "notices", "word", "say", "make", "lose", "turn", "write", "week", "kind",
            "sense", "of", "look", "if", "then", "else", "end", "and", "or", "not", "uses", "day", "total"};
        for (String token : tokens) {
            good("word " + token + " kind 0 sense 0 stiff 0;");
        }
        faulty("lose if;", 7, 5);
        faulty("stiff stiff;", 1, 6);
        faulty("stiff look;", 1, 6);
    }

    /** Each token that stands in the document is that one alone: no part of it, no longer one, none but alike. */
    private static void tokensToTheirEnds() {
        start("letters .. one behind the other (one TOKEN)");
        String[][] rows = {
            {"", "stiff", " 1;"}, {"", "wears", " 1;"}, {"", "notices", " 1;"}, {"", "say", " 1;"},
            {"", "word", " a kind 0 sense 0 stiff 0;"}, {"", "make", " a of b look 0;"}, {"", "lose", " a;"},
            {"", "turn", " 0;"}, {"", "write", " 0;"}, {"", "week", " 1;"},
            {"word a ", "kind", " 0 sense 0 stiff 0;"}, {"word a kind 0 ", "sense", " 0 stiff 0;"},
            {"word a kind 0 sense 0 ", "stiff", " 0;"}, {"make a ", "of", " b look 0;"}, {"make a of b ", "look", " 0;"},
            {"stiff ", "if", " 1=1 then 1 else 1 end;"},
            {"stiff if ", "not", " 1=1 then 1 else 1 end;"}, {"stiff if 1=1 ", "or", " 1=1 then 1 else 1 end;"},
            {"stiff if 1=1 ", "and", " 1=1 then 1 else 1 end;"}, {"stiff if 1=1 ", "then", " 1 else 1 end;"},
            {"stiff if 1=1 then 1 ", "else", " 1 end;"}, {"stiff if 1=1 then 1 else 1 ", "end", ";"},
            {"stiff ", "day", ";"}, {"stiff ", "lost", ";"}, {"stiff ", "kind", ";"}, {"stiff ", "told", ";"},
            {"stiff ", "long", ";"}, {"stiff ", "holes", ";"}, {"stiff ", "extra", ";"}, {"wears ", "letter", ";"},
            {"wears ", "use", ";"}, {"notices ", "line", ";"}, {"notices ", "total", ";"}, {"notices ", "seconds", ";"},
        };
        for (String[] row : rows) {
            String token = row[1];
            good(row[0] + token + row[2]);
            faulty(row[0] + token + "x" + row[2], 1, row[0].length());
            faulty(row[0] + token.substring(0, token.length() - 1) + row[2], 1, row[0].length());
            faulty(row[0] + "x" + token.substring(1) + row[2], 1, row[0].length());
            faulty(row[0] + token.substring(0, token.length() - 1) + "X" + row[2], 1, row[0].length());
            faulty(row[0] + token.toUpperCase() + row[2], 1, row[0].length());
        }
        good("stiff uses 1;");
        faulty("stiff usesx 1;", 1, 6);
        faulty("stiff xses 1;", 1, 6);
        faulty("stiff use 1;", 5, 6);
        faulty("wears use 1;", 1, 10);
    }

    private static void comparisons() {
        start("SUM one of < <= > >= = # (unlike) SUM");
        String[] signs = {"<", "<=", ">", ">=", "=", "#"};
        int[][] want = {{1, 1, 0, 0, 0, 1}, {0, 1, 0, 1, 1, 0}, {0, 0, 1, 1, 0, 1}};
        for (int i = 0; i < signs.length; i++) {
            for (int left = 1; left <= 3; left++) {
                String ask = left + signs[i] + "2";
                due(ask, value("if " + ask + " then 1 else 0 end"), want[left - 1][i]);
                due("not " + ask, value("if not " + ask + " then 1 else 0 end"), 1 - want[left - 1][i]);
                due("not not " + ask, value("if not not " + ask + " then 1 else 0 end"), want[left - 1][i]);
            }
        }
        due("below 0", value("if -1<0 then 1 else 0 end"), 1);
        due("below 0", value("if 0<-1 then 1 else 0 end"), 0);
    }

    private static void eitherAndBoth() {
        start("EITHER: BOTH {or BOTH}. BOTH: ASK {and ASK}");
        String[] asks = {"1=2", "1=1"};
        for (int bits = 0; bits < 8; bits++) {
            boolean a = (bits & 1) != 0;
            boolean b = (bits & 2) != 0;
            boolean c = (bits & 4) != 0;
            String first = asks[bits & 1];
            String second = asks[bits >> 1 & 1];
            String third = asks[bits >> 2];
            chosen(first + " and " + second, a && b);
            chosen(first + " or " + second, a || b);
            chosen(first + " and " + second + " and " + third, a && b && c);
            chosen(first + " or " + second + " or " + third, a || b || c);
            chosen(first + " and " + second + " or " + third, a && b || c);
            chosen(first + " or " + second + " and " + third, a || b && c);
            chosen("not " + first + " and " + second, !a && b);
            chosen("not " + first + " or " + second, !a || b);
            chosen(first + " and not " + second + " or not " + third, a && !b || !c);
        }
    }

    /** In the midst of a sum, so that what an ask leaves behind would be seen. */
    private static void chosen(String either, boolean want) {
        due(either, value("50-if " + either + " then 3 else 4 end*2+1"), want ? 45 : 43);
    }

    private static void usesOf26() {
        start("uses ONE (USE of the KEY of that number 0 .. 25; 0 for others)");
        word("abz", 0, 0, 0);
        word("z", 0, 1, 0);
        say(0);
        say(1);
        x.write(0);
        x.write(1);
        rule("stiff uses 0*10+uses 25;");
        due("0 and 25", x.stiff(0), 12);
        rule("stiff uses -1+uses 26+uses 9999+uses(0-9999)+7;");
        due("others", x.stiff(0), 7);
        rule("stiff uses uses 25*10+uses(uses 0-1)+uses 0-uses 1;");
        due("uses of uses", x.stiff(0), 1);
        rule("wears uses letter*10;");
        x.by(2);
        due("uses 2 is of c", x.stiff(0), 1);
    }

    private static void cutTowards0() {
        start("/ cuts towards 0");
        due("7/2", value("7/2"), 3);
        due("-7/2", value("10+-7/2"), 7);
        due("7/-2", value("10+7/-2"), 7);
        due("-7/-2", value("-7/-2"), 3);
        due("1/2", value("5+1/2"), 5);
        due("-1/2", value("5+-1/2"), 5);
        due("from the left", value("100/7/2"), 7);
        due("from the left", value("7/2*2"), 6);
    }

    private static void byZero() {
        start("by 0 it is 0");
        due("5/0", value("3+5/0"), 3);
        due("0/0", value("3+0/0"), 3);
        due("-5/0", value("3+-5/0"), 3);
        due("5/(1-1)", value("5/(1-1)+4"), 4);
        due("5/1", value("5/1"), 5);
        due("5/-1", value("9+5/-1"), 4);
    }

    private static void millions() {
        start("what is above 1000000 (below the same less) is that");
        due("999999", value("(9999*100+99)/9999-9"), 91);
        due("999999 is itself", value("9999*100+99-9999*100"), 99);
        due("1000000 is itself", value("9999*100+100-9999*100-50"), 50);
        due("1000001 is 1000000", value("9999*100+101-9999*100-50"), 50);
        due("-999999 is itself", value("0-9999*100-99+9999*100+100"), 1);
        due("-1000000 is itself", value("0-9999*100-100+9999*100+150"), 50);
        due("-1000001 is -1000000", value("0-9999*100-101+9999*100+150"), 50);
        due("by times", value("9999*9999/5000-150"), 50);
        due("by times below", value("-9999*9999/-5000-150"), 50);
        due("far above", value("9999*9999*9999*9999/5000-150"), 50);
        due("far below", value("9999*9999*-9999*9999/-5000-150"), 50);
    }

    private static void eachStep() {
        start("at each step");
        due("above, then less", value("9999*101-9999*100-50"), 50);
        due("above twice", value("9999*101+9999*101-9999*100-50"), 50);
        due("both sides", value("9999*101-9999*9999+5"), 5);
        due("of minus", value("-(9999*101)/-9999-50"), 50);
        due("in an ask", value("if 9999*101=9999*102 then 1 else 2 end"), 1);
        due("in an ask", value("if 9999*100=9999*102 then 1 else 2 end"), 2);
    }

    private static void notLookedAt() {
        start("or and and look at both sides always, of if just the SUM that is chosen is asked");
        due("or", value("if 1=1 or 1/0=1 then 1 else 2 end"), 1);
        due("and", value("if 1=2 and 1/0=1 then 1 else 2 end"), 2);
        due("then", value("if 1=1 then 3 else 1/0 end"), 3);
        due("else", value("if 1=2 then 1/0 else 4 end"), 4);
        due("in both", value("if 1=2 then if 1=1 then 5 else 6 end else if 1=2 then 7 else 8 end end+1"), 9);
    }

    private static void faultAtTheEnd() {
        start("FAULTS .. at the TOKEN's first byte (of the end at the length)");
        faulty("lose", 1, 4);
        faulty("lose   ", 1, 7);
        faulty("lose a", 1, 6);
        faulty("lose a\n", 1, 7);
        faulty("   los", 1, 3);
        faulty("stiff 1+", 1, 8);
        faulty("stiff if 1<2 then 1 else 1", 1, 26);
        faulty("stiff (", 1, 7);
        faulty("say 1,2", 1, 7);
        faulty("word a kind", 1, 11);
        faulty("lose   12345;", 1, 7);
        faulty("lose   abcde;", 7, 7);
        faulty("lose a" + times(294, " "), 1, 300);
    }

    private static void faultOneOrOthers() {
        start("of one the least: 1 it can't stand there, or is none");
        faulty("lose a 10000;", 1, 7);
        faulty("lose 10000;", 1, 5);
        faulty("word a 7;", 1, 7);
        faulty("say 1 12;", 1, 6);
        faulty("say ABC;", 1, 4);
        faulty("stiff 1 letter;", 1, 8);
        faulty("stiff 1 (;", 1, 8);
        faulty("stiff ((((((((1(", 1, 15);
        faulty("stiff ((((((((not", 1, 14);
        faulty("stiff ((((((((letter", 5, 14);
        faulty("stiff ((((((((10000", 2, 14);
        faulty("stiff ((((((((", 1, 14);
        faulty("stiff 1 stiff 2;", 1, 8);
        faulty("kind 0;", 1, 0);
        faulty("turn a;", 1, 5);
        faulty("week ,;", 1, 5);
    }

    private static void faultTwoOfEach() {
        start("2 a NUMBER that isn't one of those told");
        String[][] rows = {
            {"word a kind ", "0", "6", "7", " sense 0 stiff 0;"},
            {"word a kind 0 sense ", "0", "11", "12", " stiff 0;"},
            {"word a kind 0 sense 0 stiff ", "0", "9", "10", ";"},
            {"make a of b look ", "0", "9", "10", ";"},
            {"turn ", "0", "23", "24", ";"},
            {"write ", "0", "7", "8", ";"},
            {"week ", "1", "40", "41", ";"},
            {"say ", "0", "11", "12", ";"},
            {"say 1,2,3,4,", "0", "11", "12", ";"},
            {"stiff ", "0", "9999", "10000", ";"},
            {"wears ", "0", "9999", "10000", ";"},
            {"notices 1+", "0", "9999", "10000", ";"},
        };
        for (String[] row : rows) {
            good(row[0] + row[1] + row[4]);
            good(row[0] + row[2] + row[4]);
            faulty(row[0] + row[3] + row[4], 2, row[0].length());
            faulty(row[0] + "10000" + row[4], 2, row[0].length());
            if (!isLaw(row[0])) {
                faulty(row[0] + "-1" + row[4], 1, row[0].length());
            }
        }
        faulty("week 0;", 2, 5);
        faulty("week 000;", 2, 5);
        good("week 01;");
    }

    /** A law takes a - ahead of a number; the others don't. */
    private static boolean isLaw(String clause) {
        return clause.startsWith("stiff") || clause.startsWith("wears") || clause.startsWith("notices");
    }

    private static void faultThree() {
        start("3 the 9th of ( not uses if and - (of one ONE) that are open around one another (at it)");
        good("stiff " + times(8, "(") + "1" + times(8, ")") + ";");
        faulty("stiff " + times(9, "(") + "1" + times(9, ")") + ";", 3, 14);
        good("stiff " + times(8, "-") + "1;");
        faulty("stiff " + times(9, "-") + "1;", 3, 14);
        good("stiff " + times(8, "uses ") + "1;");
        faulty("stiff " + times(9, "uses ") + "1;", 3, 46);
        good("stiff if " + times(7, "not ") + "1=1 then 1 else 1 end;");
        faulty("stiff if " + times(8, "not ") + "1=1 then 1 else 1 end;", 3, 37);
        good("stiff " + times(8, "if 1=") + "1" + times(8, " then 1 else 1 end") + ";");
        faulty("stiff " + times(9, "if 1=") + "1" + times(9, " then 1 else 1 end") + ";", 3, 46);
        good("stiff " + times(8, "if 1=1 then ") + "1" + times(8, " else 1 end") + ";");
        faulty("stiff " + times(9, "if 1=1 then ") + "1" + times(9, " else 1 end") + ";", 3, 102);
        good("stiff " + times(8, "if 1=1 then 1 else ") + "1" + times(8, " end") + ";");
        faulty("stiff " + times(9, "if 1=1 then 1 else ") + "1" + times(9, " end") + ";", 3, 158);
        good("stiff (-uses(-uses if not 1=1 then 1 else 1 end));");
        faulty("stiff (-uses(-uses if not (1)=1 then 1 else 1 end));", 3, 26);
        faulty("stiff (-uses(-uses if not -1=1 then 1 else 1 end));", 3, 26);
        faulty("stiff (-uses(-uses if not not 1=1 then 1 else 1 end));", 3, 26);
        faulty("stiff (-uses(-uses(if not 1=1 then 1 else 1 end));", 3, 22);
    }

    private static void faultThreeIsNotAround() {
        start("3 .. that are open around one another");
        good("stiff " + times(20, "(1)+") + "1;");
        good("stiff " + times(20, "-1+") + "1;");
        good("stiff " + times(20, "uses 1+") + "1;");
        good("stiff if not 1=1 and not 1=1 or not 1=1 and not 1=1 or not 1=1 or not 1=1 and not 1=1 or not 1=1 or "
                + "not 1=1 or not 1=1 then 1 else 1 end;");
        good("stiff ((((((((1))))))))-((((((((1))))))));");
        good("stiff if ((((((1))))))=-((((((1)))))) then (((((((1))))))) else (((((((1))))))) end;");
        good("stiff 1-1-1-1-1-1-1-1-1-1-1-1;");
        good("stiff -1--1--1--1--1--1--1--1--1--1;");
        good("stiff --------1+--------1;");
        faulty("stiff --------1+---------1;", 3, 24);
        good("stiff " + times(8, "(") + "1-1" + times(8, ")") + ";");
        faulty("stiff " + times(8, "(") + "1--1" + times(8, ")") + ";", 3, 16);
    }

    private static void faultFour() {
        start("4 stiff, wears, notices for the second time (at it)");
        for (String law : new String[] {"stiff", "wears", "notices"}) {
            good(law + " 1;");
            faulty(law + " 1;" + law + " 2;", 4, law.length() + 3);
            faulty(law + " 1; \n" + law, 4, law.length() + 5);
            faulty(law + " 1;" + times(23, "lose a;") + law, 4, law.length() + 3 + 161);
        }
        good("word stiff kind 0 sense 0 stiff 0;stiff 1;word stiff kind 0 sense 0 stiff 0;");
    }

    private static void faultFive() {
        start("5 a NAME that isn't of that CLAUSE (at it)");
        String[] laws = {"stiff", "wears", "notices"};
        String[][] names = {{"kind", "told", "long", "holes", "extra"}, {"letter", "use"},
            {"line", "total", "seconds"}};
        for (int law = 0; law < 3; law++) {
            good(laws[law] + " day+lost;");
            for (int of = 0; of < 3; of++) {
                for (String name : names[of]) {
                    if (law == of) {
                        good(laws[law] + " " + name + ";");
                    } else {
                        faulty(laws[law] + " " + name + ";", 5, laws[law].length() + 1);
                        faulty(laws[law] + " 1+" + name, 5, laws[law].length() + 3);
                    }
                }
            }
        }
        faulty("stiff kinds;", 1, 6);
        faulty("stiff kin;", 1, 6);
        faulty("wears us;", 1, 6);
        faulty("wears uses;", 1, 10);
    }

    private static void faultSix() {
        start("6 the 25th CLAUSE (at its first TOKEN)");
        String full = times(24, "lose a;");
        good(full);
        for (String law : new String[] {"stiff", "wears", "notices", "word", "say", "make", "lose", "turn", "write",
            "week"}) {
            faulty(full + " " + law, 6, 169);
        }
        faulty(full + "5", 1, 168);
        faulty(full + ";", 1, 168);
        faulty(full + "Lose a;", 1, 168);
        faulty(full.substring(0, 161) + "lose 5;lose a;", 1, 166);
    }

    private static void faultSeven() {
        start("7 LETTERS or a LETTER that are too many, or not all a .. z (at it)");
        faulty("word AAAAAAAAAA kind 0 sense 0 stiff 0;", 7, 5);
        faulty("word " + times(200, "a") + " kind", 7, 5);
        faulty("make A of b look 0;", 7, 5);
        faulty("make a of Z look 0;", 7, 10);
        faulty("make a of - look 0;", 1, 10);
        faulty("word a- kind 0 sense 0 stiff 0;", 1, 6);
        faulty("word - kind 0 sense 0 stiff 0;", 1, 5);
        good("word zzzzzzzzz kind 0 sense 0 stiff 0;make y of z look 0;");
    }

    private static void faultEight() {
        start("8 the , ahead of the 6th SENSE (at it)");
        good("say 0,0,0,0,0;");
        faulty("say 0,0,0,0,0,", 8, 13);
        faulty("say 0,0,0,0,0,;", 8, 13);
        faulty("say 0,0,0,0,0 ,0;", 8, 14);
        faulty("say 0,0,0,0,12,0;", 2, 12);
        faulty("say 0,0,0,0,0 0;", 1, 14);
        faulty("say 0,0,0,0,0", 1, 13);
    }

    private static void theFirstFault() {
        start("the first as TOKENS are come to");
        faulty("lose ab;week 41;", 7, 5);
        faulty("week 41;lose ab;", 2, 5);
        faulty("stiff use+10000;", 5, 6);
        faulty("stiff 10000+use;", 2, 6);
        faulty("say 12,0,0,0,0,0;", 2, 4);
        due("of the latest", x.fault(0), 2);
        text("lose a;");
        due("none", x.fault(0), 0);
        due("none", x.fault(1), -1);
    }

    private static void theTextAtFirst() {
        start("THE TEXT (told; at first none) rules");
        word("a", 0, 0, 5);
        due("none", x.about(3), -1);
        text("stiff 9;");
        due("it doesn't rule by being read", x.stiff(0), 5);
        x.played(0);
        due("nor by being played", x.stiff(0), 5);
        x.by(0);
        due("it rules", x.stiff(0), 9);
        x.by(-1);
        due("none", x.stiff(0), 5);
    }

    private static void stiffTo99() {
        start("stiff: 0 at least, 99 at most");
        due("-1", value("0-1"), 0);
        due("0", value("0"), 0);
        due("1", value("1"), 1);
        due("98", value("98"), 98);
        due("99", value("99"), 99);
        due("100", value("100"), 99);
        due("1000000", value("9999*9999"), 99);
        due("-1000000", value("-9999*9999"), 0);
    }

    private static void stiffWithout() {
        start("stiff without: told and EXTRA together");
        word("eeeeeeeee", 5, 0, 9);
        x.made(4, 0, 9);
        lose("e");
        due("9 + 81", x.stiff(0), 90);
        rule("wears 1;notices 1;");
        due("a text without stiff", x.stiff(0), 90);
        rule("stiff told+extra;");
        due("with", x.stiff(0), 90);
        rule("stiff told+extra+9;");
        due("with", x.stiff(0), 99);
        rule("stiff told+extra+10;");
        due("99 at most", x.stiff(0), 99);
    }

    private static void wearsTo10() {
        start("wears (the odds of 10): 0 at least, 10 at most");
        text("wears -5;");
        text("wears 0;");
        text("wears 10;");
        text("wears 99;");
        x.image();
        int[] lost = new int[4];
        for (int t = 0; t < 4; t++) {
            x.restore();
            x.by(t);
            x.week(40);
            lost[t] = x.is(1);
        }
        due("below 0 none goes", lost[0], 0);
        due("by 0 none goes", lost[1], 0);
        due("by 10 each goes that is come to", Integer.bitCount(lost[2]) > 10, true);
        due("above 10 likewise", lost[3], lost[2]);
    }

    /** On DAY 5 the draw is 9, for a; on DAY 6 it is 0, for q. */
    private static void wearsByDraw() {
        for (int odds = -1; odds <= 11; odds++) {
            start("wears (the odds of 10): 0 at least, 10 at most: " + odds);
            rule("wears if day=5 then " + odds + " else 0 end;");
            x.week(7);
            due("a draw of 9", x.is(1), odds >= 10 ? 1 : 0);
            start("wears (the odds of 10): 0 at least, 10 at most: " + odds);
            rule("wears if day=6 then " + odds + " else 0 end;");
            x.week(7);
            due("a draw of 0", x.is(1), odds >= 1 ? 1 << 16 : 0);
        }
    }

    private static void wearsWithout() {
        for (int use : new int[] {99, 100, 109, 110, 111}) {
            start("wears without: USE by 10, cut: 10 at most, of " + use);
            word("aaaaaaaaa", 0, 0, 0);
            word("a", 0, 1, 0);
            for (int i = 0; i < 6; i++) {
                say(9);
            }
            say(0, 0, 0, 0, 0);
            say(1);
            x.write(6);
            x.write(6);
            for (int i = 90; i < use; i++) {
                x.write(7);
            }
            due("use", x.use(0), use);
            x.week(6);
            due("a draw of 9", x.is(1), use >= 100 ? 1 : 0);
        }
        for (int use : new int[] {9, 10}) {
            start("wears without: USE by 10, cut, of " + use);
            word("q", 0, 1, 0);
            for (int i = 0; i < 7; i++) {
                say(9);
            }
            say(1);
            for (int i = 0; i < use; i++) {
                x.write(7);
            }
            x.week(7);
            due("a draw of 0", x.is(1), use >= 10 ? 1 << 16 : 0);
        }
    }

    /** On DAY 0 the draw is 6, for r, which is letter 17. */
    private static void wearsByNames() {
        for (int use = 6; use <= 7; use++) {
            start("NAMES: letter, use in wears: USE " + use);
            word("r", 0, 1, 0);
            say(9);
            say(1);
            for (int i = 0; i < use; i++) {
                x.write(1);
            }
            rule("wears use;");
            due("use", x.week(1), use >= 7 ? 1 : 0);
        }
        for (int letter = 16; letter <= 18; letter++) {
            start("NAMES: letter, use in wears: LETTER " + letter);
            rule("wears if letter=" + letter + " then 10 else 0 end;");
            due("letter", x.week(1), letter == 17 ? 1 : 0);
        }
        for (int lost = 6; lost <= 7; lost++) {
            start("NAMES: day, lost in all: " + lost);
            lose("abcdefg".substring(0, lost));
            rule("wears lost;");
            due("lost", x.week(1), lost >= 7 ? lost + 1 : lost);
        }
        for (int day = 4; day <= 6; day++) {
            start("NAMES: day, lost in all: DAY " + day);
            rule("wears if day=" + day + " then 10 else 0 end;");
            x.week(7);
            due("day", x.is(1), new int[] {1 << 9, 1, 1 << 16}[day - 4]);
        }
    }

    private static void noticesTo10() {
        start("notices (the odds of 10, of one line): 0 at least, 10 at most");
        int[][] want = {{-1, 0, 1}, {0, 0, 1}, {1, 1, 10}, {9, 9, 10}, {10, 1, 1}, {11, 1, 1}};
        for (int[] row : want) {
            x.restore();
            word("a", 0, 0, 0);
            say(0);
            rule("notices " + row[0] + ";");
            due("upper of " + row[0], x.notices(1, false), row[1]);
            due("lower of " + row[0], x.notices(1, true), row[2]);
        }
    }

    private static void noticesWithout() {
        start("notices without: total by 4, cut");
        for (int total : new int[] {0, 3, 4, 7, 8, 39, 40, 43, 44, 99}) {
            x = new WithoutE();
            word("a", 0, 0, 0);
            say(0);
            rule("stiff " + total + ";");
            int odds = Math.min(10, total / 4);
            due("there are odds of " + total, x.notices(1, true) > 0, true);
            due("odds of " + total, x.notices(1, false) * 10, odds * x.notices(1, true));
        }
    }

    private static void playedLawsAside() {
        start("PLAYED: its CLAUSES but laws; its number among all CLAUSES (from 0)");
        due("laws alone", x.played(text("stiff 1;wears 10;notices 1;")), -1);
        due("nothing is done", x.about(0) + x.about(1) + x.about(3) + x.is(0) + x.is(1), -1);
        due("the first", x.played(text("turn 0;stiff 1;lose a;")), 0);
        due("behind laws", x.played(text("stiff 1;wears 1;notices 1;turn 0;lose a;")), 3);
        due("the last", x.played(text(times(8, "say 0;") + "lose a;lose b;lose a;")), 10);
        due("lost", x.is(1), 3);
    }

    private static void playedEnds() {
        start("one that can't be ends it; what was done stays");
        int t = text("word go kind 0 sense 0 stiff 1;say 0;write 0;lose g;write 0;lose z;");
        due("played", x.played(t), 4);
        due("written once", x.use(6), 1);
        due("lost", x.is(1), 1 << 6);
        due("steps", x.about(4), 2);
        due("refused", refusals(), 1);
        due("nothing is written down of it", x.book(-1, 0), 1);
        due("again", x.played(t), 2);
        due("a word and a sentence more", x.about(0) * 10 + x.about(1), 22);
        due("refused", refusals(), 2);
        start("one that can't be ends it: the last of all");
        t = text(times(8, "say 0;") + "word a kind 0 sense 0 stiff 0;say 0;");
        due("no room", x.played(t), 9);
        due("refused", refusals(), 100);
    }

    private static void playedDays() {
        start("(of so many DAYS those that can pass do)");
        goToDay(9990);
        int t = text("week 9;week 1;");
        due("9999 can't be passed", x.played(t), 1);
        due("day", x.is(0), 9999);
        due("refused", refusals(), 1);
        due("steps", x.about(4), 30);
        start("(of so many DAYS those that can pass do): some");
        goToDay(9990);
        int xThen = x.is(3);
        for (int i = 0; i < 18; i++) {
            xThen = (xThen * 409 + 283) % 30517;
        }
        t = text("week 10;lose a;");
        due("one can't", x.played(t), 0);
        due("day", x.is(0), 9999);
        due("nine did", x.is(3), xThen);
        due("it ends", x.is(1), 0);
        due("refused once", refusals(), 1);
        start("(of so many DAYS those that can pass do): all");
        goToDay(9959);
        t = text("week 40;lose a;");
        due("all can", x.played(t), -1);
        due("day", x.is(0), 9999);
        due("none can", x.played(t), 0);
        due("refused once", refusals(), 1);
    }

    private static void playedMadeOfItself() {
        start("(a MADE one may not be of itself: it can't be)");
        int t = text("make b of a look 1;make a of a look 1;make c of a look 1;");
        due("text", t, 0);
        due("played", x.played(t), 1);
        due("b", x.letters(1), 1);
        due("a", x.letters(0), 0);
        due("c", x.letters(2), 0);
    }
}
