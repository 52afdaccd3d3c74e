/** The limits of a kernel and where a text is wrong (Terms; promises 4 and 5), a method for each sentence. */
public final class KernelLimitTest {
    private static final Check CHECK = new Check();
    private static final String STATEMENTS = "abcdefghOLXR?*";
    private static final String DIGITS = "0123456789";
    private static final String NAMES = "abcdefgh";
    private static final String TERMS = DIGITS + NAMES + "nIL(";
    private static final String OPERATORS = "+-*<=&";
    private static final String[] RIGHT = {
        "a=1;b=22;c=333;d=a;e=n;f=I[a];g=L[b];h=(c);",
        "Oa+b-c*d<e=f&g;O((((1))));OI[L[I[L[7]]]];",
        "L[n]=n;L[L[n]]=L[n];L[I[(n)]]=((((n))));",
        "Xabn;Xhga+1;Xaa(n);R;",
        "?a{}?b{}{}?1{R;}{R;R;}*c{}*d<9{d=d+1;}",
        "?1{?2{?3{?4{R;}{R;}}{?5{}}}{*6{*7{}}}}*9{}",
    };

    public static void main(String[] args) {
        atMost160Characters();
        placesInTheLongestText();
        whatCanStandInStatements();
        whatCanStandInExpressions();
        whatCanStandBehindBlocks();
        whereTheTextEnds();
        firstCharacterThatCantStand();
        numbersOfOneToThreeDigits();
        fourBracketsWithinOneAnother();
        bracketsBesideOneAnother();
        bracketsOfStatements();
        fourBlocksWithinOneAnother();
        blocksBesideOneAnother();
        syntaxBeforeParted();
        firstPartedExchange();
        CHECK.end();
    }

    private static void due(String text, int answer, int place) {
        LaneDesk desk = Check.typed(text);
        CHECK.due("compile of " + text, desk.compile(), answer);
        CHECK.due("place of " + text, desk.place(), place);
    }

    private static void right(String text) {
        due(text, 0, -1);
    }

    private static void syntax(String text, int place) {
        due(text, 1, place);
    }

    /** "A KERNEL is a text of at most 160 characters": the longest ones of each kind are right, and run. */
    private static void atMost160Characters() {
        dueIssued("R;".repeat(80), 1);
        dueIssued("a=a+1;".repeat(26) + "On+1", -1);
        dueIssued("a=a+1;".repeat(26) + "On+;", -1);
        dueIssued("a=a+1;".repeat(26) + "O10;", 27);
        dueIssued("?1{}".repeat(40), 40);
        dueIssued("*0{}".repeat(40), 40);
        dueIssued("?1{}{}".repeat(26) + "?0{}", 27);
        dueIssued("?1{?1{?1{?1{}}}}".repeat(10), 40);
        dueIssued("?0{}{?0{}{?0{}{?0{}{}}}}".repeat(6) + "?1{}?1{}?1{}?1{}", 28);
        dueIssued("O1;".repeat(52) + "O10;", 53);
        dueIssued("Xabn;".repeat(32), 32);
        dueIssued("L[n]=n;".repeat(22) + "a=b+1;", 23);
        LaneDesk sum = Check.done("Oa" + "+1".repeat(78) + "0;");
        CHECK.due("the longest expression", sum.out(false, 0, 0), 87);
        LaneDesk deep = Check.done("O" + "(1+(1+(1+(1+1))))+".repeat(8) + "((((1+1+1))));");
        CHECK.due("many brackets", deep.out(true, 0, 0), 43);
    }

    /** How many statements the longest text issues in step; -1 when it is wrong at its end. */
    private static void dueIssued(String text, int issued) {
        CHECK.due("length of " + text, text.length(), 160);
        LaneDesk desk = Check.typed(text);
        CHECK.due("compile of " + text, desk.compile(), issued < 0 ? 1 : 0);
        if (issued < 0) {
            CHECK.due("place of " + text, desk.place(), text.endsWith(";") ? 159 : 160);
            return;
        }
        desk.start();
        CHECK.due("run of " + text, desk.run(issued), 1);
        CHECK.due("issued of " + text, desk.spent(0), issued);
        CHECK.due("alone of " + text, desk.alone(8 * issued), 1);
        if (issued > 1) {
            CHECK.due("too little alone of " + text, desk.alone(8 * issued - 1), 0);
        }
    }

    /** The last places that something can be told with. */
    private static void placesInTheLongestText() {
        syntax("R;".repeat(79) + "R!", 159);
        syntax("R;".repeat(79) + "RR", 159);
        syntax("R;".repeat(79) + "!;", 158);
        syntax("R;".repeat(79) + "a=", 160);
        syntax("?1{" + "R;".repeat(78) + "R", 160);
        syntax("?1{R" + ";R".repeat(78), 160);
        syntax("R;".repeat(75) + "?n{Xab0;}R", 160);
        due("R;".repeat(75) + "*n{Xab10;}", 2, 153);
        syntax("R;".repeat(76) + "?n{Xab0}", 159);
        LaneDesk trap = Check.done("a=1;".repeat(37) + "b=1+1;OL[8];");
        CHECK.due("the trap of the last statement", trap.lane(false, 0, 1), 155);
        CHECK.due("the trap of the last statement, alone", trap.lane(true, 0, 1), 155);
    }

    /** "the first character that can't stand there": each one from 33 to 126 behind each beginning. */
    private static void dueCanStand(String beginning, String those) {
        for (char sign = 33; sign <= 126; sign++) {
            String text = beginning + sign;
            if (those.indexOf(sign) < 0) {
                syntax(text, beginning.length());
            } else if (isWhole(text)) {
                right(text);
            } else {
                syntax(text, text.length());
            }
        }
    }

    /** Of a text that may at least go on. */
    private static boolean isWhole(String text) {
        long open = text.chars().filter(c -> c == '{').count() - text.chars().filter(c -> c == '}').count();
        return open == 0 && (text.isEmpty() || text.endsWith(";") || text.endsWith("}"));
    }

    private static void whatCanStandInStatements() {
        dueCanStand("", STATEMENTS);
        dueCanStand("R;", STATEMENTS);
        dueCanStand("a=1;", STATEMENTS);
        for (char v = 'a'; v <= 'h'; v++) {
            dueCanStand("" + v, "=");
        }
        dueCanStand("a=", TERMS);
        dueCanStand("O", TERMS);
        dueCanStand("On", OPERATORS + ";");
        dueCanStand("L", "[");
        dueCanStand("L[", TERMS);
        dueCanStand("L[n", OPERATORS + "]");
        dueCanStand("L[n]", "=");
        dueCanStand("L[n]=", TERMS);
        dueCanStand("L[n]=n", OPERATORS + ";");
        dueCanStand("X", NAMES);
        dueCanStand("Xa", NAMES);
        dueCanStand("Xh", NAMES);
        dueCanStand("Xab", TERMS);
        dueCanStand("Xabn", OPERATORS + ";");
        dueCanStand("R", ";");
    }

    private static void whatCanStandInExpressions() {
        dueCanStand("a=1", DIGITS + OPERATORS + ";");
        dueCanStand("a=12", DIGITS + OPERATORS + ";");
        dueCanStand("a=123", OPERATORS + ";");
        dueCanStand("a=h", OPERATORS + ";");
        dueCanStand("a=n", OPERATORS + ";");
        dueCanStand("a=I", "[");
        dueCanStand("a=I[", TERMS);
        dueCanStand("a=I[12", DIGITS + OPERATORS + "]");
        dueCanStand("a=I[b", OPERATORS + "]");
        dueCanStand("a=I[b]", OPERATORS + ";");
        dueCanStand("a=L", "[");
        dueCanStand("a=L[", TERMS);
        dueCanStand("a=L[n", OPERATORS + "]");
        dueCanStand("a=L[n]", OPERATORS + ";");
        dueCanStand("a=(", TERMS);
        dueCanStand("a=(b", OPERATORS + ")");
        dueCanStand("a=(b)", OPERATORS + ";");
        dueCanStand("a=(I[b]", OPERATORS + ")");
        dueCanStand("a=L[(b)", OPERATORS + "]");
        for (char operator : OPERATORS.toCharArray()) {
            dueCanStand("a=b" + operator, TERMS);
        }
    }

    private static void whatCanStandBehindBlocks() {
        dueCanStand("?", TERMS);
        dueCanStand("?n", OPERATORS + "{");
        dueCanStand("?n{", STATEMENTS + "}");
        dueCanStand("?n{R;", STATEMENTS + "}");
        dueCanStand("?n{}", STATEMENTS + "{");
        dueCanStand("?n{}{", STATEMENTS + "}");
        dueCanStand("?n{}{R;", STATEMENTS + "}");
        dueCanStand("?n{}{}", STATEMENTS);
        dueCanStand("?n{}R;", STATEMENTS);
        dueCanStand("*", TERMS);
        dueCanStand("*n", OPERATORS + "{");
        dueCanStand("*n{", STATEMENTS + "}");
        dueCanStand("*n{R;", STATEMENTS + "}");
        dueCanStand("*n{}", STATEMENTS);
        dueCanStand("?n{?n{}", STATEMENTS + "{}");
        dueCanStand("?n{?n{}{}", STATEMENTS + "}");
        dueCanStand("?n{?n{}{}}", STATEMENTS + "{");
        dueCanStand("?n{}{?n{}", STATEMENTS + "{}");
        dueCanStand("?n{}{?n{}{}", STATEMENTS + "}");
        dueCanStand("?n{}{?n{}{}}", STATEMENTS);
        dueCanStand("?n{*n{}", STATEMENTS + "}");
        dueCanStand("*n{?n{}", STATEMENTS + "{}");
        dueCanStand("*n{?n{}}", STATEMENTS);
        dueCanStand("*n{?n{}{}", STATEMENTS + "}");
    }

    /** "or where the text ends": right texts that end too early. */
    private static void whereTheTextEnds() {
        for (String text : RIGHT) {
            for (int length = 0; length <= text.length(); length++) {
                String beginning = text.substring(0, length);
                if (isWhole(beginning)) {
                    right(beginning);
                } else {
                    syntax(beginning, length);
                }
            }
        }
    }

    /** "told with the place of the first character that can't stand there": what comes behind it does not count. */
    private static void firstCharacterThatCantStand() {
        for (String text : RIGHT) {
            for (int k = 0; k <= text.length(); k++) {
                for (char sign : new char[] {'!', '~', '/', ':', '@', 'i', '`', '|'}) {
                    syntax(text.substring(0, k) + sign + text.substring(k), k);
                    syntax(text.substring(0, k) + sign + "!" + text.substring(Math.min(text.length(), k + 1)), k);
                }
            }
        }
    }

    /** "a number of 1 to 3 digits". */
    private static void numbersOfOneToThreeDigits() {
        for (String number : new String[] {"0", "9", "00", "10", "99", "000", "007", "100", "999"}) {
            LaneDesk desk = Check.done("O" + number + ";");
            CHECK.due("number " + number, desk.out(false, 0, 0), Integer.parseInt(number));
            CHECK.due("number " + number + " alone", desk.out(true, 0, 0), Integer.parseInt(number));
        }
        syntax("O1000;", 4);
        syntax("O0000;", 4);
        syntax("O0999", 4);
        syntax("O12345;", 4);
        syntax("O1+1000;", 6);
        syntax("OI[0015];", 6);
        syntax("L[0007]=1;", 5);
        syntax("Xab0000;", 6);
        syntax("?1000{}", 4);
        syntax("*0000{}", 4);
    }

    /** "Brackets ( [ are at most 4 within one another", of each kind; one too many is told "at its own .. bracket". */
    private static void fourBracketsWithinOneAnother() {
        String[] opening = {"(", "I[", "L["};
        String[] closing = {")", "]", "]"};
        for (int code = 0; code < 243; code++) {
            String open = "";
            String close = "";
            for (int depth = 0, rest = code; depth < 4; depth++, rest /= 3) {
                open += opening[rest % 3];
                close = closing[rest % 3] + close;
            }
            String fifth = opening[code / 81];
            String end = closing[code / 81];
            for (String before : new String[] {"a=", "O", "Xab", "?", "*", "L[0]=", "a=1+"}) {
                String behind = before.equals("?") || before.equals("*") ? "{}" : ";";
                right(before + open + "1" + close + behind);
                int place = (before + open + fifth).length() - 1;
                syntax(before + open + fifth + "1" + end + close + behind, place);
                syntax(before + open + "1+" + fifth + "1" + end + close + behind, place + 2);
                syntax(before + open + fifth, place);
            }
        }
    }

    /** "within one another": brackets that are closed again do not count. */
    private static void bracketsBesideOneAnother() {
        right("a=((((1))))+((((2))))+I[L[I[L[3]]]];");
        right("a=(1+(2+(3+(4)+(5))+(6))+(7))+(8);");
        right("a=((((1))+((2))+((3)+(4))));");
        right("a=(1)+(2)+(3)+(4)+(5)+(6)+(7)+(8)+(9);");
        syntax("a=((((1))+((2))+((3)+((4)))));", 22);
        syntax("a=(1+(2+(3+(4)+(5)+((6)))));", 20);
        dueCanStand("a=((((", DIGITS + NAMES + "nIL");
        dueCanStand("a=((((1+", DIGITS + NAMES + "nIL");
        dueCanStand("a=((((I", "");
        dueCanStand("a=((((L", "");
        dueCanStand("a=(((", TERMS);
        dueCanStand("a=(((I", "[");
        dueCanStand("a=((((1)", OPERATORS + ")");
        dueCanStand("a=((((1))", OPERATORS + ")");
        dueCanStand("a=((((1)))+", TERMS);
        dueCanStand("a=((((1))))", OPERATORS + ";");
        dueCanStand("a=((((1))))+", TERMS);
        dueCanStand("a=((((1))))+((((", DIGITS + NAMES + "nIL");
    }

    /** The [ of the statement L [ E ] = F is a bracket, too, and F stands behind it. */
    private static void bracketsOfStatements() {
        right("L[(((1)))]=1;");
        right("L[I[I[I[1]]]]=1;");
        right("L[0]=((((1))));");
        right("L[(((1)))]=((((1))));");
        syntax("L[((((1))))]=1;", 5);
        syntax("L[I[I[I[I[1]]]]]=1;", 9);
        syntax("L[((1)+((L[1])))]=1;", 10);
        syntax("L[(((1)))]=(((((1)))));", 15);
        dueCanStand("L[(((", DIGITS + NAMES + "nIL");
        dueCanStand("L[(((L", "");
        dueCanStand("L[((L", "[");
        dueCanStand("L[0]=((((", DIGITS + NAMES + "nIL");
        dueCanStand("L[0]=(((", TERMS);
    }

    /** "blocks { at most 4 (a fifth one can't stand where it is)", each of ?, * and a second block. */
    private static void fourBlocksWithinOneAnother() {
        String[] opening = {"?1{", "*0{", "?1{R;}{"};
        for (int code = 0; code < 243; code++) {
            String open = "";
            for (int depth = 0, rest = code; depth < 4; depth++, rest /= 3) {
                open += opening[rest % 3];
            }
            right(open + "}}}}");
            right(open + "R;}}}}R;");
            String fifth = opening[code / 81];
            syntax(open + fifth + "}}}}}", open.length() + 2);
            syntax(open + "R;" + fifth, open.length() + 4);
        }
    }

    /** Blocks that are closed again do not count. */
    private static void blocksBesideOneAnother() {
        right("?1{}?1{}?1{}?1{}?1{}?1{}");
        right("?1{}{}*1{}?1{?1{?1{?1{}{}}{}}{}}{}");
        right("?1{?1{?1{?1{}{}?1{}{}*1{}}{?1{}}}}?1{}");
        right("*1{*1{*1{*1{}*1{}}*1{*1{}}}*1{*1{*1{}}}}");
        syntax("?1{?1{?1{?1{}{}?1{}{?1{}}}}}", 22);
        syntax("*1{*1{*1{*1{}*1{*1{}}}}}", 18);
        dueCanStand("?n{?n{?n{?n{", STATEMENTS + "}");
        dueCanStand("?n{?n{?n{?n{?n", OPERATORS);
        dueCanStand("?n{?n{?n{?n{*n", OPERATORS);
        dueCanStand("?n{?n{?n{?n{?1", DIGITS + OPERATORS);
        dueCanStand("?n{?n{?n{?n{}", STATEMENTS + "{}");
        dueCanStand("?n{?n{?n{?n{}{", STATEMENTS + "}");
        dueCanStand("?n{?n{?n{?n{}{?n", OPERATORS);
        dueCanStand("?n{?n{?n{?n{}}?n", OPERATORS + "{");
        dueCanStand("*n{*n{*n{*n{}*n", OPERATORS + "{");
        dueCanStand("*n{*n{*n{*n{*n", OPERATORS);
        dueCanStand("*n{*n{*n{*n{}}*n", OPERATORS + "{");
    }

    /** "otherwise with 2 PARTED": only a text that is right otherwise. */
    private static void syntaxBeforeParted() {
        due("?n{Xab0;}", 2, 3);
        syntax("?n{Xab0;}!", 9);
        syntax("?n{Xab0;", 8);
        syntax("?n{Xab0;}?1{?1{?1{?1{?1{}}}}}", 23);
        syntax("!?n{Xab0;}", 0);
    }

    /** "the place of the first X that stands in a block (or block of a block ..) of a ? or * whose E VARIES". */
    private static void firstPartedExchange() {
        due("Xab0;?1{Xab0;}?n{Xab0;Xab0;}?n{Xab0;}", 2, 17);
        due("?1{?1{?1{?n{Xab0;}}}}", 2, 12);
        due("?n{?1{?1{?1{Xab0;}}}}", 2, 12);
        due("*1{*n{*1{*1{}Xab0;}}}", 2, 13);
        due("?1{?1{?1{?1{Xab0;}}}}", 0, -1);
        due("?1{}{?n{}{Xab0;}}", 2, 10);
        due("?n{}{}Xab0;", 0, -1);
        due("?n{}{?1{}}?1{Xab0;}", 0, -1);
        due("*n{*1{}}*1{Xab0;}", 0, -1);
        due("?n{?n{}}?1{?1{Xab0;}}", 0, -1);
        due("?1{?n{}{}Xab0;}", 0, -1);
        due("?1{*n{}Xab0;}", 0, -1);
        due("?1{?n{?n{}}}{Xab0;?n{}}", 0, -1);
        due("?h{Xab0;}g=n;f=g;e=f;d=e;c=d;b=c;h=b;", 2, 3);
        due("?a{a=b;b=c;c=d;d=e;e=f;f=g;g=h;Xhb0;}", 2, 31);
        due("*a{a=b;b=c;c=d;d=e;e=f;f=g;g=h;Xhb0;}", 2, 31);
        due("?a{a=b;b=c;c=d;d=e;e=f;f=g;g=g;Xhb0;}", 0, -1);
        due("?a{Xhb0;}a=b;b=c;c=d;d=e;e=f;f=g;g=h;", 2, 3);
        due("?a{Xhb0;}a=b;b=c;c=d;d=e;e=f;f=g;", 0, -1);
        due("?h{Xab0;}h=a;", 2, 3);
        due("?h{Xab0;}h=b;", 0, -1);
        due("?h{Xab0;}?n{h=1;}", 2, 3);
        due("*I[I[n]]{Xab0;}", 2, 9);
        due("*I[I[0]]{Xab0;}", 0, -1);
        due("*L[0]*0{Xab0;}", 2, 8);
    }
}
