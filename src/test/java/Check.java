/** What the tests share: calls on a TinyForge, what is due, and the count of what is not. */
final class Check {
    private static final int NOTHING = Integer.MIN_VALUE;
    private static int checks = 0;
    private static int wrong = 0;
    private static String sentence = "";

    private Check() {
    }

    static void due(String what, Object got, Object want) {
        checks++;
        if (!want.equals(got)) {
            wrong++;
            System.out.println(sentence + what + " answered " + got + ", due is " + want);
        }
    }

    /** The document's words that the checks behind this are about. */
    static void sentence(String words) {
        sentence = "\"" + words + "\": ";
    }

    /** A call whose exception is of interest. */
    interface Call {
        int answer();
    }

    /** The answer of a call, or the name of the exception that it throws. */
    static String of(Call call) {
        try {
            return Integer.toString(call.answer());
        } catch (RuntimeException e) {
            return "throws " + e.getClass().getSimpleName();
        }
    }

    static void typeAll(TinyForge forge, String text) {
        for (int from = 0; from < text.length(); from += 8) {
            int to = Math.min(from + 8, text.length());
            forge.type(bytes(text.substring(from, to)), to - from);
        }
    }

    /** Up to eight characters as type() takes them. */
    static long bytes(String part) {
        long bytes = 0;
        for (int k = part.length() - 1; k >= 0; k--) {
            bytes = bytes << 8 | part.charAt(k);
        }
        return bytes;
    }

    static void retype(TinyForge forge, String text) {
        forge.clear();
        typeAll(forge, text);
    }

    /** All that an object tells without being changed by that. */
    static String told(TinyForge forge) {
        StringBuilder told = new StringBuilder("why " + forge.why() + " where " + forge.where()
                + " result " + forge.result() + " ticks " + forge.ticks() + " output");
        for (int k = -1; k <= forge.output(-1); k++) {
            told.append(' ').append(forge.output(k));
        }
        return told.toString();
    }

    /** The call throws, and all that the object tells stays. */
    static void refusedCall(String what, TinyForge forge, Call call, String exception) {
        String ahead = told(forge);
        due(what, of(call), "throws " + exception);
        due("what is told behind " + what, told(forge), ahead);
    }

    static TinyForge typed(String text) {
        TinyForge forge = new TinyForge();
        typeAll(forge, text);
        return forge;
    }

    static TinyForge forged(String text) {
        TinyForge forge = typed(text);
        due("forge() of " + text, of(forge::forge).startsWith("throws"), false);
        return forge;
    }

    /** The text is refused with a reason, at a place. */
    static void refused(String text, int why, int where) {
        TinyForge forge = typed(text);
        due("forge() of " + text, of(forge::forge), "throws UnsupportedOperationException");
        due("why() of " + text, forge.why(), why);
        due("where() of " + text, forge.where(), where);
        due("run() of " + text, of(forge::run), "throws NoSuchElementException");
    }

    /** The text, in which a # stands ahead of the place, is refused there with a reason. */
    static void refusedAtMark(String marked, int why) {
        int place = marked.indexOf('#');
        refused(marked.substring(0, place) + marked.substring(place + 1), why, place);
    }

    static void accepted(String text, int functions) {
        TinyForge forge = typed(text);
        due("forge() of " + text, of(forge::forge), Integer.toString(functions));
        due("why() of " + text, forge.why(), 0);
        due("where() of " + text, forge.where(), -1);
    }

    static void accepted(String text) {
        accepted(text, 1);
    }

    /** Forges and runs a text: the object, to be asked further. */
    static TinyForge ran(String text, int[] input, int state, int result, int ticks) {
        TinyForge forge = forged(text);
        for (int number : input) {
            forge.give(number);
        }
        due("run() of " + text, of(forge::run), Integer.toString(state));
        due("result() of " + text, forge.result(), result);
        if (ticks != NOTHING) {
            due("ticks() of " + text, forge.ticks(), ticks);
        }
        return forge;
    }

    static TinyForge ran(String text, int state, int result, int ticks) {
        return ran(text, new int[0], state, result, ticks);
    }

    /** A value is what main gives when it returns it. */
    static void value(String value, int want, int... input) {
        ran("int main(){return " + value + ";}", input, 0, want, NOTHING);
    }

    static void put(TinyForge forge, int... numbers) {
        due("output(-1)", forge.output(-1), numbers.length);
        for (int k = 0; k < numbers.length; k++) {
            due("output(" + k + ")", forge.output(k), numbers[k]);
        }
        due("output behind the last", forge.output(numbers.length), 0);
    }

    static void end() {
        System.out.println(checks + " checks, " + wrong + " not as due");
        if (wrong != 0 || checks == 0) {
            System.exit(1);
        }
    }
}
