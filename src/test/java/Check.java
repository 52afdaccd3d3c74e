import java.util.Arrays;

/** What the tests share: it counts the answers that are not due, and makes desks out of texts. */
final class Check {
    private int wrong = 0;

    void due(String call, long got, long want) {
        if (got != want) {
            report(call + " answered " + got + ", due is " + want);
        }
    }

    void due(String call, boolean got, boolean want) {
        due(call, got ? 1 : 0, want ? 1 : 0);
    }

    /** A call that must throw just this exception, and not one of a class below it. */
    void dueThrow(String call, Class<? extends RuntimeException> want, Runnable made) {
        String got = "nothing";
        try {
            made.run();
        } catch (RuntimeException e) {
            got = e.getClass().getSimpleName();
        }
        if (!got.equals(want.getSimpleName())) {
            report(call + " threw " + got + ", due is " + want.getSimpleName());
        }
    }

    void dueArgument(String call, Runnable made) {
        dueThrow(call, IllegalArgumentException.class, made);
    }

    void dueState(String call, Runnable made) {
        dueThrow(call, IllegalStateException.class, made);
    }

    void dueIndex(String call, Runnable made) {
        dueThrow(call, IndexOutOfBoundsException.class, made);
    }

    void report(String what) {
        wrong++;
        System.out.println(what);
    }

    int wrong() {
        return wrong;
    }

    void end() {
        System.out.println(wrong == 0 ? "all answers are as due" : wrong + " answers are not as due");
        if (wrong != 0) {
            System.exit(1);
        }
    }

    /** Numbers outside a range: the first ones on both sides, some that would wrap round into it, the ends of int. */
    static int[] outside(int least, int most) {
        int[] candidates = {least - 1, most + 1, least - 8, most + 8, -1, -256, 32, 256, 65536, 1 << 30,
            Integer.MIN_VALUE, Integer.MIN_VALUE + 1, Integer.MAX_VALUE - 1, Integer.MAX_VALUE};
        return Arrays.stream(candidates).filter(k -> k < least || k > most).distinct().toArray();
    }

    /** The word whose lowest bytes are the characters, the first one highest. */
    static long word(String characters) {
        long word = 0;
        for (int k = 0; k < characters.length(); k++) {
            word = word << 8 | characters.charAt(k);
        }
        return word;
    }

    static void type(LaneDesk desk, String text) {
        for (int from = 0; from < text.length(); from += 8) {
            String part = text.substring(from, Math.min(text.length(), from + 8));
            desk.type(word(part), part.length());
        }
    }

    static LaneDesk typed(String text) {
        LaneDesk desk = new LaneDesk();
        type(desk, text);
        return desk;
    }

    static LaneDesk compiled(String text) {
        LaneDesk desk = typed(text);
        int answer = desk.compile();
        if (answer != 0) {
            throw new AssertionError(text + " is wrong with " + answer + " at " + desk.place());
        }
        return desk;
    }

    static LaneDesk started(String text) {
        LaneDesk desk = compiled(text);
        desk.start();
        return desk;
    }

    /** Both runs of a text are done. */
    static LaneDesk done(String text) {
        LaneDesk desk = started(text);
        finish(desk);
        return desk;
    }

    /** Both runs of a desk that is started are done. */
    static void finish(LaneDesk desk) {
        if (desk.run(500) != 1 || desk.alone(4000) != 1) {
            throw new AssertionError("the fuel does not do");
        }
    }
}
