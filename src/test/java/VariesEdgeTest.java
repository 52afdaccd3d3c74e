/** "WHAT VARIES is the least there can be" (Terms; promise 6): how far it goes, and where it ends. */
public final class VariesEdgeTest {
    private static final Check CHECK = new Check();

    public static void main(String[] args) {
        eachVariableAlone();
        eachPair();
        nothingOutOfNothing();
        longestChains();
        whatIsInAnExpression();
        whatIsGivenInBlocks();
        whereBlocksEnd();
        exchangeGives();
        statementsThatGiveNothing();
        CHECK.end();
    }

    private static void due(String text, String names) {
        LaneDesk desk = Check.compiled(text);
        for (int v = 0; v < 8; v++) {
            CHECK.due("varies(" + v + ") of " + text, desk.varies(v), names.indexOf('a' + v) >= 0);
        }
    }

    private static void eachVariableAlone() {
        for (char v = 'a'; v <= 'h'; v++) {
            due(v + "=n;", "" + v);
            due(v + "=L[0];", "" + v);
            due(v + "=I[n];", "" + v);
            due("X" + v + v + "0;", "" + v);
            due("?n{" + v + "=0;}", "" + v);
            due("*n{" + v + "=0;}", "" + v);
            due("?n{}{" + v + "=0;}", "" + v);
            due(v + "=0;" + v + "=I[0]+" + v + ";", "");
        }
    }

    /** Whatever is given first. */
    private static void eachPair() {
        for (char v = 'a'; v <= 'h'; v++) {
            for (char w = 'a'; w <= 'h'; w++) {
                due(v + "=n;" + w + "=1+" + v + ";", "" + v + w);
                due(w + "=1+" + v + ";" + v + "=n;", "" + v + w);
                due("?" + v + "{" + w + "=1;}" + v + "=n;", "" + v + w);
                due("X" + v + w + "n;", "" + v);
            }
        }
    }

    /** "the least there can be": what is given only in a ring does not vary. */
    private static void nothingOutOfNothing() {
        due("a=a;", "");
        due("a=b;b=c;c=d;d=e;e=f;f=g;g=h;h=a;", "");
        due("?a{b=1;}?b{a=1;}", "");
        due("*a{a=b;b=a+1;*b{b=b-1;}}", "");
        due("a=b;b=c;c=a;c=n;", "abc");
        due("a=I[b];b=I[a];", "");
        due("a=I[b];b=I[a];b=n;", "ab");
    }

    /** Each variable is found only behind the one before. */
    private static void longestChains() {
        due("a=b;b=c;c=d;d=e;e=f;f=g;g=h;h=n;", "abcdefgh");
        due("h=n;g=h;f=g;e=f;d=e;c=d;b=c;a=b;", "abcdefgh");
        due("h=g;g=f;f=e;e=d;d=c;c=b;b=a;a=L[7];", "abcdefgh");
        due("?b{a=1;}?c{b=1;}?d{c=1;}?e{d=1;}?f{e=1;}?g{f=1;}?h{g=1;}h=n;", "abcdefgh");
        due("*b{a=1;}*c{b=1;}*d{c=1;}*e{d=1;}*f{e=1;}*g{f=1;}*h{g=1;}Xha0;", "abcdefgh");
        due("a=I[b];?c{b=1;}c=I[I[d]];*e{d=1;}e=f;f=(g);g=h+1;Xhh0;", "abcdefgh");
        due("a=b;b=c;c=d;e=f;f=g;g=h;d=n;", "abcd");
    }

    /** "when n, an own cell, a variable that varies, or an input whose E varies is in it": at any place of it. */
    private static void whatIsInAnExpression() {
        due("a=n-n;b=n*0;c=n&0;d=1+1+1+n;e=(1+(2+(3+(n))));", "abcde");
        due("a=L[0];b=L[7]*0;c=1+L[1+1];d=((1+L[I[0]]));", "abcd");
        due("a=I[I[I[I[n]]]];b=I[I[I[I[0]]]];c=I[1+(n)];d=I[(1)]+n;", "acd");
        due("h=n;a=I[h];b=I[I[h]];c=I[g];d=I[g]+h;e=h=h;", "abdeh");
        due("a=0;b=999;c=I[0];d=I[15];e=(a+b*(c-d));f=e<e;", "");
    }

    /** "when it is given something in a block (or block of a block ..) of a ? or * whose E varies". */
    private static void whatIsGivenInBlocks() {
        due("?n{a=1;?1{b=1;*1{c=1;?1{d=1;}{e=1;}}}{f=1;}}{g=1;}h=1;", "abcdefg");
        due("?1{a=1;?1{b=1;*1{c=1;?n{d=1;}{e=1;}}}{f=1;}}{g=1;}h=1;", "de");
        due("?1{a=1;?1{b=1;*n{c=1;?1{d=1;}{e=1;}}}{f=1;}}{g=1;}h=1;", "cde");
        due("?1{a=1;}{?1{b=1;}{?1{c=1;}{?n{d=1;}{e=1;}}f=1;}}", "de");
        due("?I[0]{a=1;}{b=1;}*I[1]{c=1;}", "");
        due("?L[0]{a=1;}{b=1;}*L[1]{c=1;}", "abc");
        due("?I[L[0]]{a=1;}{b=1;}*I[n]{c=1;}", "abc");
        due("*a{a=n;b=1;}", "ab");
        due("*a{b=1;?b{a=n;}}", "ab");
    }

    /** Behind a block the same E does not count any more. */
    private static void whereBlocksEnd() {
        due("?n{}a=1;", "");
        due("?n{}{}a=1;", "");
        due("*n{}a=1;", "");
        due("?n{a=1;}b=1;?1{c=1;}*1{d=1;}", "a");
        due("?n{a=1;}{b=1;}?1{c=1;}{d=1;}", "ab");
        due("?1{?n{a=1;}b=1;}{c=1;}", "a");
        due("?1{?n{}{a=1;}b=1;?1{c=1;}}", "a");
        due("?1{?1{?1{?n{a=1;}b=1;}c=1;}d=1;}e=1;", "a");
        due("?n{?1{}a=1;}b=1;", "a");
        due("?n{?1{}{}a=1;*1{}b=1;}{?1{}c=1;}d=1;", "abc");
        due("?n{?n{}a=1;}{?n{}{}b=1;}?1{?1{c=1;}}", "ab");
        due("*n{*n{}a=1;}*1{*1{b=1;}}", "a");
    }

    /** "when some X gives it": v, whatever w and E are, and not w. */
    private static void exchangeGives() {
        due("Xab0;", "a");
        due("Xaa0;", "a");
        due("Xabn;", "a");
        due("b=n;Xab0;", "ab");
        due("Xabc;c=1;", "a");
        due("?0{Xab0;}", "a");
        due("*0{?0{}{Xab0;Xbc0;}}", "ab");
        due("R;Xab0;", "a");
        due("c=a;Xab0;d=b;", "ac");
    }

    private static void statementsThatGiveNothing() {
        due("On;OL[n];L[n]=n;L[0]=L[1];R;", "");
        due("?n{On;L[n]=n;R;}{On;}*n{R;}", "");
        due("L[a]=n;O(n);b=a;", "");
        due("L[n]=1;a=1;On;b=1;R;c=1;", "");
        due("?n{}a=1;On;b=c;L[n]=n;d=2;", "");
    }
}
