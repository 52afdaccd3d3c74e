import java.util.Random;
import java.util.function.LongSupplier;

/** All promises: made-up calls and kernels, answered by LaneDesk and by PlainDesk alike. */
public final class SameAsPlainTest {
    private static final Check CHECK = new Check();
    private static final int RUNS = 2500;
    private static final int MOST_TOLD = 20;
    /** Before the last look, which takes 152 calls. */
    private static final int MOST_CALLS = 350;

    private final Random random;
    private final LaneDesk desk = new LaneDesk();
    private final PlainDesk plain = new PlainDesk();
    private final KernelMaker maker;
    private final StringBuilder calls = new StringBuilder();
    private int called = 0;

    private SameAsPlainTest(long seed) {
        random = new Random(seed);
        maker = new KernelMaker(random);
    }

    public static void main(String[] args) {
        syntax();
        for (int run = 0; run < RUNS && CHECK.wrong() < MOST_TOLD; run++) {
            new SameAsPlainTest(run).go();
        }
        CHECK.end();
    }

    /** Every text of up to four characters out of a few, and behind some beginnings. */
    private static void syntax() {
        String signs = "a1n+=()[]{};ILOXR?*!";
        String[] beginnings = {"", "a=", "?1{", "?1{}", "*1{}", "a=((((", "L[I[I[I[1", "?1{?1{*1{?1{", "?1{*1{?1{?1", "Xab12"};
        for (String beginning : beginnings) {
            for (int code = 0; code < 160000 && CHECK.wrong() < MOST_TOLD; code += beginning.isEmpty() ? 1 : 7) {
                StringBuilder text = new StringBuilder(beginning);
                for (int rest = code; rest > 0; rest /= 20) {
                    text.append(signs.charAt(rest % 20));
                }
                LaneDesk desk = Check.typed(text.toString());
                int place = PlainDesk.firstWrong(text.toString());
                int answer = desk.compile();
                CHECK.due("syntax of " + text, answer == 1, place >= 0);
                if (place >= 0) {
                    CHECK.due("place of " + text, desk.place(), place);
                }
            }
        }
    }

    private void go() {
        for (int kernels = 0; kernels < 6 && called < MOST_CALLS - 60; kernels++) {
            typeKernel(kernels);
            same("compile()", desk::compile, plain::compile);
            same("place()", desk::place, plain::place);
            for (int k = 0; k < 8; k++) {
                int v = random.nextInt(12) - 2;
                same("varies(" + v + ")", () -> desk.varies(v) ? 1 : 0, () -> plain.varies(v) ? 1 : 0);
            }
            for (int k = 0; k < 10 && called < MOST_CALLS - 10; k++) {
                oneCall();
                look();
            }
        }
        lookAtAll(random.nextBoolean());
        if (called > 512) {
            CHECK.report("a run of more than 512 calls, whose answers are free: " + calls);
        }
    }

    private void typeKernel(int kernels) {
        if (kernels > 0 && random.nextInt(8) > 0) {
            calls.append("clear() ");
            desk.clear();
            plain.clear();
        }
        String text = maker.kernel();
        calls.append('"').append(text).append("\" ");
        for (int from = 0; from < text.length(); ) {
            int n = Math.min(text.length() - from, 8 - random.nextInt(3) * random.nextInt(2));
            String part = text.substring(from, from + n);
            long word = Check.word(part) | (n < 8 ? random.nextLong() << 8 * n : 0);
            same("type(" + word + ", " + n + ")", () -> desk.type(word, n), () -> plain.type(word, n));
            from += n;
        }
    }

    private void oneCall() {
        int a = random.nextInt(18) - 1;
        int fuel = random.nextInt(3) == 0 ? random.nextInt(502) : random.nextInt(12);
        int fuelAlone = random.nextInt(3) == 0 ? random.nextInt(300) : random.nextInt(4002);
        switch (random.nextInt(9)) {
            case 0:
            case 1:
                same("start()", () -> { desk.start(); return 0; }, () -> { plain.start(); return 0; });
                break;
            case 2:
                int v = random.nextInt(12) - 2;
                same("input(" + a + ", " + v + ")", () -> { desk.input(a, v); return 0; }, () -> { plain.input(a, v); return 0; });
                break;
            case 3:
                int n = random.nextInt(11) - 1;
                same("lanes(" + n + ")", () -> { desk.lanes(n); return 0; }, () -> { plain.lanes(n); return 0; });
                break;
            case 4:
                same("alone(" + fuelAlone + ")", () -> desk.alone(fuelAlone), () -> plain.alone(fuelAlone));
                break;
            default:
                same("run(" + fuel + ")", () -> desk.run(fuel), () -> plain.run(fuel));
                break;
        }
    }

    private void look() {
        boolean alone = random.nextBoolean();
        int lane = random.nextInt(20) == 0 ? random.nextInt(12) - 2 : random.nextInt(8);
        same("mask()", desk::mask, plain::mask);
        int which = random.nextInt(7) == 0 ? 2 : random.nextInt(2);
        same("spent(" + which + ")", () -> desk.spent(which), () -> plain.spent(which));
        int what = random.nextInt(12) == 0 ? 3 : random.nextInt(3);
        same("lane(" + alone + ", " + lane + ", " + what + ")",
                () -> desk.lane(alone, lane, what), () -> plain.lane(alone, lane, what));
        int k = random.nextInt(3) == 0 ? random.nextInt(24) - 1 : random.nextInt(4);
        same("out(" + alone + ", " + lane + ", " + k + ")",
                () -> desk.out(alone, lane, k), () -> plain.out(alone, lane, k));
        int c = random.nextInt(20) == 0 ? random.nextInt(20) - 2 : random.nextInt(16);
        same("cell(" + alone + ", " + lane + ", " + c + ")",
                () -> desk.cell(alone, lane, c), () -> plain.cell(alone, lane, c));
    }

    private void lookAtAll(boolean alone) {
        for (int l = 0; l < 8; l++) {
            int lane = l;
            for (int w = 0; w < 3; w++) {
                int what = w;
                same("lane(" + alone + ", " + lane + ", " + what + ")",
                        () -> desk.lane(alone, lane, what), () -> plain.lane(alone, lane, what));
            }
            for (int c = 0; c < 16; c++) {
                int k = c;
                same("cell(" + alone + ", " + lane + ", " + k + ")",
                        () -> desk.cell(alone, lane, k), () -> plain.cell(alone, lane, k));
            }
        }
    }

    private void same(String call, LongSupplier got, LongSupplier want) {
        called++;
        calls.append(call).append(' ');
        String answer = answer(got);
        String due = answer(want);
        if (!answer.equals(due) && CHECK.wrong() < MOST_TOLD) {
            CHECK.report(call + " answered " + answer + ", due is " + due + ", after " + calls);
        }
    }

    private static String answer(LongSupplier call) {
        try {
            return Long.toString(call.getAsLong());
        } catch (IllegalArgumentException | IllegalStateException | IndexOutOfBoundsException e) {
            return e.getClass().getSimpleName();
        }
    }
}
