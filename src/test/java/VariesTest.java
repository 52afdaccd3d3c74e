/** Promise 6. */
public final class VariesTest {
    private static final Check CHECK = new Check();

    public static void main(String[] args) {
        dueVaries("", "");
        dueVaries("a=1;b=a+2;c=I[b];d=(c);", "");
        dueVaries("a=n;", "a");
        dueVaries("a=1+(2*n);", "a");
        dueVaries("a=L[0];", "a");
        dueVaries("a=I[n];", "a");
        dueVaries("a=I[I[L[1]]];", "a");
        dueVaries("a=b;b=c;c=d;d=e;e=f;f=g;g=h;h=n;", "abcdefgh");
        dueVaries("h=n;g=h;e=g;", "egh");
        dueVaries("a=n+b;", "a");
        dueVaries("a=b+n;", "a");
        dueVaries("a=n;b=a+c;d=c+a;e=c+c;", "abd");
        dueVaries("a=L[1]+I[b];c=n*(b-I[b]);", "ac");
        dueVaries("Xab0;", "a");
        dueVaries("c=a;Xab0;", "ac");
        dueVaries("?n{a=1;}{b=2;}c=3;", "ab");
        dueVaries("*n{a=1;?1{b=1;}{c=1;}}d=1;", "abc");
        dueVaries("?1{?n{a=1;}b=1;}{c=1;}", "a");
        dueVaries("?n{}?1{a=1;}", "");
        dueVaries("*n{}a=1;", "");
        dueVaries("?b{a=1;}b=c;Xcd0;", "abc");
        dueVaries("L[n]=n;OL[n];a=1;", "");
        dueVaries("a=n-n;", "a");
        dueVaries("a=0&n;a=1;", "a");
        dueVaries("R;a=n;", "a");
        dueVaries("h=a;", "");
        dueVaries("?a=n{b=1;}*c{d=c;}", "b");
        dueVaries("*a{a=a-1;b=b+I[a];}", "");
        edges();
        CHECK.end();
    }

    private static void dueVaries(String text, String names) {
        LaneDesk desk = Check.compiled(text);
        for (int v = 0; v < 8; v++) {
            CHECK.due("varies " + v + " of " + text, desk.varies(v), names.indexOf('a' + v) >= 0);
        }
    }

    private static void edges() {
        LaneDesk none = Check.typed("a=n;");
        CHECK.dueState("a text that is not compiled", () -> none.varies(0));
        CHECK.dueState("no kernel goes before no variable", () -> none.varies(8));
        LaneDesk desk = Check.compiled("a=n;");
        CHECK.dueArgument("-1", () -> desk.varies(-1));
        CHECK.dueArgument("8", () -> desk.varies(8));
        CHECK.dueArgument("32", () -> desk.varies(32));
        CHECK.dueArgument("least", () -> desk.varies(Integer.MIN_VALUE));
        desk.clear();
        Check.type(desk, "b=n;");
        desk.compile();
        CHECK.due("a of the new kernel", desk.varies(0), false);
        CHECK.due("b of the new kernel", desk.varies(1), true);
    }
}
