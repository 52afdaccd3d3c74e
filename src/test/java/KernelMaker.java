import java.util.Random;

/** Makes up kernels: most are right, many loops come to an end, some have a wrong character. */
final class KernelMaker {
    private static final String SIGNS = "abcdefghn0123456789+-*<=&()[]{};ILOXR?!~";

    private final Random random;

    KernelMaker(Random random) {
        this.random = random;
    }

    String kernel() {
        String text = statements(0, 2 + random.nextInt(9), false);
        if (random.nextInt(5) == 0 && !text.isEmpty()) {
            text = spoiled(text);
        }
        return text.length() > 160 ? cut(text) : text;
    }

    /** Some texts are one that is too long, as it is. */
    private String cut(String text) {
        return random.nextInt(20) == 0 ? text : kernel();
    }

    private String spoiled(String text) {
        int at = random.nextInt(text.length());
        char sign = SIGNS.charAt(random.nextInt(SIGNS.length()));
        switch (random.nextInt(4)) {
            case 0: return text.substring(0, at) + text.substring(at + 1);
            case 1: return text.substring(0, at) + sign + text.substring(at);
            case 2: return text.substring(0, at);
            default: return text.substring(0, at) + sign + text.substring(at + 1);
        }
    }

    private String statements(int blocks, int count, boolean parted) {
        StringBuilder text = new StringBuilder();
        for (int k = 0; k < count; k++) {
            text.append(statement(blocks, parted));
        }
        return text.toString();
    }

    private String statement(int blocks, boolean parted) {
        switch (random.nextInt(blocks < 4 ? 14 : 9)) {
            case 0:
            case 1:
            case 2:
                return variable() + "=" + expression(0) + ";";
            case 3:
            case 4:
                return "O" + expression(0) + ";";
            case 5:
                return "L[" + small() + "]=" + expression(0) + ";";
            case 6:
            case 7:
                boolean held = parted && random.nextInt(30) > 0;
                return held ? "Oa;" : "X" + variable() + variable() + (random.nextBoolean() ? "n+1" : expression(0)) + ";";
            case 8:
                return random.nextInt(3) == 0 ? "R;" : variable() + "=" + small() + ";";
            case 9:
            case 10:
                return counted(blocks, parted);
            case 11:
                return "*" + expression(0) + "{" + statements(blocks + 1, random.nextInt(3), true) + "}";
            default:
                return choice(blocks, parted);
        }
    }

    private String choice(int blocks, boolean parted) {
        boolean same = random.nextInt(3) == 0;
        String text = "?" + (same ? "I[" + random.nextInt(16) + "]" : expression(0))
                + "{" + statements(blocks + 1, random.nextInt(3), parted || !same) + "}";
        if (random.nextBoolean()) {
            text += "{" + statements(blocks + 1, random.nextInt(3), parted || !same) + "}";
        }
        return text;
    }

    private String counted(int blocks, boolean parted) {
        char v = "gh".charAt(random.nextInt(2));
        boolean same = random.nextBoolean();
        String first = same ? "" + random.nextInt(4) : "n";
        return v + "=" + first + ";*" + v + "{" + v + "=" + v + "-1;"
                + statements(blocks + 1, random.nextInt(3), parted || !same) + "}";
    }

    private char variable() {
        return "abcdef".charAt(random.nextInt(6));
    }

    /** Mostly a number that an own cell can have. */
    private String small() {
        switch (random.nextInt(6)) {
            case 0: return "n";
            case 1: return variable() + "&7";
            case 2: return "n+" + random.nextInt(4);
            case 3: return variable() + "";
            default: return random.nextInt(8) + "";
        }
    }

    private String expression(int brackets) {
        StringBuilder text = new StringBuilder(term(brackets));
        for (int more = random.nextInt(3); more > 0; more--) {
            text.append("+-*<=&".charAt(random.nextInt(6))).append(term(brackets));
        }
        return text.toString();
    }

    private String term(int brackets) {
        switch (random.nextInt(brackets < 4 ? 11 : 7)) {
            case 0:
            case 1:
                return random.nextInt(random.nextBoolean() ? 4 : 1000) + "";
            case 2:
                return "n";
            case 7:
                return "I[" + small() + "]";
            case 8:
                return "L[" + small() + "]";
            case 9:
                return "(" + expression(brackets + 1) + ")";
            case 10:
                return "I[" + expression(brackets + 1) + "]";
            default:
                return variable() + "";
        }
    }
}
