/** Promises 1 (a new object), 2 (type) and 3 (clear). */
public final class TextTest {
    private static final String WRONG = "throws IllegalArgumentException";
    private static final String TOO_LONG = "throws IllegalStateException";

    public static void main(String[] args) {
        newObject();
        lowestByteFirst();
        numbersOfCharacters();
        characters();
        lengthOfTheText();
        wrongCharactersGoBeforeLength();
        clearing();
        forgedStays();
        Check.end();
    }

    private static void newObject() {
        TinyForge x = new TinyForge();
        Check.due("new: result()", x.result(), 0);
        Check.due("new: ticks()", x.ticks(), 0);
        Check.due("new: output(-1)", x.output(-1), 0);
        Check.due("new: output(0)", x.output(0), 0);
        Check.due("new: why()", x.why(), 0);
        Check.due("new: where()", x.where(), -1);
        Check.due("new: run()", Check.of(x::run), "throws NoSuchElementException");
        Check.due("new: empty()", x.empty(), 0);
        Check.due("new: clear()", x.clear(), 0);
    }

    private static void lowestByteFirst() {
        TinyForge x = new TinyForge();
        Check.due("type int", x.type('i' | 'n' << 8 | 't' << 16 | ' ' << 24, 4), 4);
        Check.due("type main", x.type('m' | 'a' << 8 | 'i' << 16 | 'n' << 24, 4), 8);
        Check.due("type (){}", x.type('(' | ')' << 8 | '{' << 16 | (long) '}' << 24, 4), 12);
        Check.due("forge()", Check.of(x::forge), "1");
    }

    private static void numbersOfCharacters() {
        TinyForge x = new TinyForge();
        long eight = Check.bytes("abcdefgh");
        Check.due("type of 8", x.type(eight, 8), 8);
        Check.due("type of 1", x.type(eight, 1), 9);
        for (int n : new int[] {0, 9, -1, 16, Integer.MIN_VALUE, Integer.MAX_VALUE}) {
            Check.due("type of " + n, Check.of(() -> x.type(eight, n)), WRONG);
        }
        Check.due("nothing was added", x.clear(), 9);
    }

    private static void characters() {
        for (int code = 0; code < 256; code++) {
            int c = code;
            TinyForge x = new TinyForge();
            boolean right = code == 10 || code >= 32 && code <= 126;
            Check.due("type of code " + code, Check.of(() -> x.type(c, 1)), right ? "1" : WRONG);
            long last = Check.bytes("       ") | (long) c << 56;
            Check.due("type of code " + code + " as the last", Check.of(() -> x.type(last, 8)),
                    right ? "9" : WRONG);
            Check.due("bytes behind are not looked at", Check.of(() -> x.type(last, 7)), right ? "16" : "7");
        }
    }

    private static void lengthOfTheText() {
        TinyForge x = new TinyForge();
        for (int k = 1; k < 60; k++) {
            Check.due("type", x.type(Check.bytes("        "), 8), 8 * k);
        }
        Check.due("type to 476", x.type(Check.bytes("    "), 4), 476);
        Check.due("type to 481", Check.of(() -> x.type(Check.bytes("     "), 5)), TOO_LONG);
        Check.due("type to 484", Check.of(() -> x.type(Check.bytes("        "), 8)), TOO_LONG);
        Check.due("type to 480", Check.of(() -> x.type(Check.bytes("    "), 4)), "480");
        Check.due("type to 481", Check.of(() -> x.type(32, 1)), TOO_LONG);
        Check.due("clear()", x.clear(), 480);
        Check.due("type behind clear()", x.type(32, 1), 1);
    }

    private static void wrongCharactersGoBeforeLength() {
        TinyForge x = Check.typed(" ".repeat(480));
        Check.due("type of a wrong one", Check.of(() -> x.type(9, 1)), WRONG);
        Check.due("type of none", Check.of(() -> x.type(32, 0)), WRONG);
        Check.due("length", x.clear(), 480);
    }

    private static void clearing() {
        TinyForge x = Check.typed("int main(){}");
        Check.due("clear()", x.clear(), 12);
        Check.due("clear() again", x.clear(), 0);
        Check.due("forge() of nothing", Check.of(x::forge), "throws UnsupportedOperationException");
        Check.typeAll(x, "int main(){return 3;}");
        Check.due("forge()", Check.of(x::forge), "1");
    }

    private static void forgedStays() {
        TinyForge x = Check.forged("int main(){return 3;}");
        Check.typeAll(x, "rubbish");
        Check.due("run() behind type()", x.run(), 0);
        Check.due("result()", x.result(), 3);
        x.clear();
        Check.due("result() behind clear()", x.result(), 3);
        Check.due("run() behind clear()", x.run(), 0);
        Check.due("result()", x.result(), 3);
        Check.due("why()", x.why(), 0);
    }
}
