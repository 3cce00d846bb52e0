/**
 * Runs written calls on new desks and compares each answer with the one that is written behind it.
 *
 * <p>A script is lines of calls, several in a line parted by ";", each "name(arguments) = answer". "all(axis) = P L H
 * B W" asks for the five numbers of an axis. A number is written as a whole one (0x.. too), or as a floating one with
 * f or d behind it, which stands for its bits in SINGLE or DOUBLE. A script that is run for several kinds says KIND
 * for the kind and puts _ behind a number of it.
 */
final class Script {
    static final int[] EVERY_KIND = {Due.WHOLE, Due.LONG, Due.SINGLE, Due.DOUBLE};
    static final int[] WHOLES = {Due.WHOLE, Due.LONG};
    static final int[] FLOATS = {Due.SINGLE, Due.DOUBLE};

    private static final int MOST_CALLS = 512;
    private static final String[] SUFFIXES = {"", "", "f", "d"};

    private final Due due;
    private final String sentence;
    private final ServoDesk desk = new ServoDesk();
    private int calls = 0;

    private Script(Due due, String sentence) {
        this.due = due;
        this.sentence = sentence;
    }

    /** One desk, the calls of all lines in their order: how many there were. */
    static int run(Due due, String sentence, String text) {
        Script script = new Script(due, sentence);
        for (String call : text.split("[;\n]")) {
            if (!call.isBlank()) {
                script.call(call.trim());
            }
        }
        return script.calls;
    }

    /** The same calls for each of these kinds, a new desk each. */
    static void run(Due due, String sentence, int[] kinds, String text) {
        for (int kind : kinds) {
            run(due, sentence, text.replace("KIND", Integer.toString(kind)).replace("_", SUFFIXES[kind]));
        }
    }

    /** Lines of "P L H B W -> P L H B W": the numbers of a new axis before and after a row of orders. */
    static void moves(Due due, String sentence, int[] kinds, int row, int length, String text) {
        for (String line : text.split("\n")) {
            if (line.isBlank()) {
                continue;
            }
            String[] sides = line.split("->");
            String[] before = sides[0].trim().split(" +");
            StringBuilder calls = new StringBuilder("axis(KIND) = 0\n");
            for (int what = 0; what < before.length; what++) {
                calls.append("set(0, " + what + ", " + before[what] + ") = true\n");
            }
            calls.append("orders(0, " + row + ") = " + length + "\nall(0) = " + sides[1].trim());
            run(due, sentence + ", " + line.trim(), kinds, calls.toString());
        }
    }

    /** Lines of "P -> P": an order's work on PLACE, by which the other four numbers stay. */
    static void places(Due due, String sentence, int[] kinds, int order, String text) {
        StringBuilder lines = new StringBuilder();
        for (String line : text.split("\n")) {
            if (!line.isBlank()) {
                String[] sides = line.split("->");
                lines.append(sides[0].trim() + " -7_ 6_ 5_ -4_ -> " + sides[1].trim() + " -7_ 6_ 5_ -4_\n");
            }
        }
        moves(due, sentence, kinds, order, 1, lines.toString());
    }

    private void call(String call) {
        int open = call.indexOf('(');
        int close = call.indexOf(") = ");
        if (open < 0 || close < open) {
            throw new IllegalStateException("not a call: " + call);
        }
        String[] words = call.substring(open + 1, close).split(", *");
        long[] given = new long[words.length];
        for (int at = 0; at < words.length; at++) {
            given[at] = number(words[at].trim());
        }
        String answer = call.substring(close + 4).trim();
        if (call.startsWith("all(")) {
            all((int) given[0], answer.split(" +"));
            return;
        }
        due.same(sentence + ": " + call, answered(call.substring(0, open), given), number(answer));
    }

    private void all(int axis, String[] answers) {
        if (answers.length != 5) {
            throw new IllegalStateException("not five numbers: " + String.join(" ", answers));
        }
        for (int what = 0; what < 5; what++) {
            long[] given = {axis, what};
            due.same(sentence + ": bits(" + axis + ", " + what + ") = " + answers[what], answered("bits", given),
                number(answers[what]));
        }
    }

    private long answered(String name, long[] given) {
        calls++;
        if (calls > MOST_CALLS) {
            throw new IllegalStateException("more calls than an object is used for: " + sentence);
        }
        int first = (int) given[0];
        switch (name) {
            case "axis": return desk.axis(first);
            case "set": return desk.set(first, (int) given[1], given[2]) ? 1 : 0;
            case "bits": return desk.bits(first, (int) given[1]);
            case "orders": return desk.orders(first, (int) given[1]);
            case "follow": return desk.follow(first, (int) given[1]) ? 1 : 0;
            case "order": return desk.order(first, (int) given[1]);
            default: throw new IllegalStateException("no such call: " + name);
        }
    }

    private static long number(String word) {
        switch (word) {
            case "true": return 1;
            case "false": return 0;
            case "NONE": return -1;
            default: break;
        }
        String digits = word.substring(0, word.length() - 1).replace("inf", "Infinity");
        boolean hex = word.contains("0x") && !word.contains("p");
        if (!hex && word.endsWith("f")) {
            return Float.floatToRawIntBits(Float.parseFloat(digits));
        }
        if (!hex && word.endsWith("d")) {
            return Double.doubleToRawLongBits(Double.parseDouble(digits));
        }
        return hex ? Long.parseUnsignedLong(word.substring(2), 16) : Long.parseLong(word);
    }
}
