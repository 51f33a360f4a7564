/** The boundaries and refused calls that promises 1 to 12 name, sentence by sentence. */
public final class BoundaryCallTest {
    private static final String ARGUMENT = "IllegalArgumentException";
    private static final String STATE = "IllegalStateException";
    private static final String REFUSED = "UnsupportedOperationException";
    private static final String NOTHING = "NoSuchElementException";
    private static final String TEXT = "int main(){print(read());print(read());return 7;}";
    /** One text for each reason, and the places at which they are refused. */
    private static final String[] WRONG = {"int main(){}$", ";;;;".repeat(60), "int main(){", "int main(){x;}"};
    private static final int[] PLACES = {12, 220, 11, 11};

    public static void main(String[] args) {
        newObject();
        lowestFirst();
        howMany();
        noCharacter();
        tooLong();
        argumentBeforeState();
        typeLeavesTheForged();
        clear();
        forge();
        refusedForge();
        forgedBehindAnother();
        why();
        where();
        give();
        empty();
        run();
        runOfNothing();
        result();
        output();
        ticks();
        calls512();
        Check.end();
    }

    /** An object that has forged and run a text on two numbers, and has another text typed in. */
    private static TinyForge used() {
        TinyForge x = Check.ran(TEXT, new int[] {-3, 4}, 0, 7, 1);
        Check.retype(x, "int main(){return 8;}");
        return x;
    }

    /** The object is as used() made it. */
    private static void isAsUsed(TinyForge x) {
        Check.due("what is told", Check.told(x), "why 0 where -1 result 7 ticks 1 output 2 -3 4 0");
        Check.due("run() of what was forged", Check.of(x::run), "0");
        Check.due("what is told behind run()", Check.told(x), "why 0 where -1 result 7 ticks 1 output 2 -3 4 0");
        Check.due("forge() of what was typed", Check.of(x::forge), "1");
        Check.due("run() of what was typed", Check.of(x::run), "0");
        Check.due("result() of what was typed", x.result(), 8);
        Check.due("empty()", x.empty(), 2);
        Check.due("clear()", x.clear(), 21);
    }

    private static void newObject() {
        Check.sentence("An empty text, nothing forged, no input");
        String told = "why 0 where -1 result 0 ticks 0 output 0 0";
        Check.due("clear()", new TinyForge().clear(), 0);
        Check.due("empty()", new TinyForge().empty(), 0);
        Check.due("type", new TinyForge().type(' ', 1), 1);
        Check.due("give", new TinyForge().give(1), 1);
        TinyForge x = new TinyForge();
        Check.due("new", Check.told(x), told);
        Check.refusedCall("run() of a new one", x, x::run, NOTHING);
        Check.due("forge() of a new one", Check.of(x::forge), "throws " + REFUSED);
        Check.due("why()", x.why(), 3);
        Check.due("where()", x.where(), 0);
        // Objects have nothing in common.
        used();
        x = new TinyForge();
        Check.due("new beside another", Check.told(x), told);
        Check.due("clear() beside another", x.clear(), 0);
        Check.due("empty() beside another", x.empty(), 0);
    }

    private static void lowestFirst() {
        Check.sentence("The n lowest bytes of a number, the lowest first, are added to the text: its length");
        String text = "int a[8];int main(){return 1234;}";
        for (int n = 1; n <= 8; n++) {
            TinyForge x = new TinyForge();
            for (int from = 0; from < text.length(); from += n) {
                int to = Math.min(from + n, text.length());
                // What stands above the lowest bytes is no character and is not looked at.
                int count = to - from;
                long above = count == 8 ? 0 : -1L << 8 * count;
                Check.due("type", x.type(Check.bytes(text.substring(from, to)) | above, count), to);
            }
            Check.due("forge()", Check.of(x::forge), "1");
            Check.due("run()", Check.of(x::run), "0");
            Check.due("result()", x.result(), 1234);
            Check.due("clear()", x.clear(), text.length());
        }
    }

    private static void howMany() {
        Check.sentence("IllegalArgumentException: n is not 1 .. 8");
        for (int n : new int[] {0, -1, 9, 10, 16, 64, 256 + 1, -8, Integer.MAX_VALUE, Integer.MIN_VALUE}) {
            TinyForge x = used();
            Check.refusedCall("type of " + n, x, () -> x.type(Check.bytes("        "), n), ARGUMENT);
            isAsUsed(x);
        }
        for (int n : new int[] {1, 2, 7, 8}) {
            TinyForge x = used();
            Check.due("type of " + n, Check.of(() -> x.type(Check.bytes("        "), n)), Integer.toString(21 + n));
        }
    }

    private static void noCharacter() {
        Check.sentence("or one is no character");
        for (int code : new int[] {0, 9, 11, 13, 31, 127, 128, 138, 160, 255}) {
            for (int at = 0; at < 8; at++) {
                TinyForge x = used();
                long bytes = Check.bytes("        ") & ~(255L << 8 * at) | (long) code << 8 * at;
                int n = at + 1;
                Check.refusedCall("type of " + code, x, () -> x.type(bytes, 8), ARGUMENT);
                Check.refusedCall("type of " + code, x, () -> x.type(bytes, n), ARGUMENT);
                isAsUsed(x);
                if (at > 0) {
                    Check.due("type of what is ahead of it", Check.of(() -> x.type(bytes, n - 1)),
                            Integer.toString(n - 1));
                }
            }
        }
    }

    private static void tooLong() {
        Check.sentence("IllegalStateException: it would be too long");
        String right = "int main(){return 8;}";
        for (int count = 1; count <= 8; count++) {
            int n = count;
            TinyForge x = used();
            Check.retype(x, right + " ".repeat(480 - 21 - n + 1));
            long characters = Check.bytes("$$$$$$$$".substring(0, n));
            Check.refusedCall("type to 481", x, () -> x.type(characters, n), STATE);
            Check.due("forge() of what was there", Check.of(x::forge), "1");
            if (n > 1) {
                Check.due("type to 480", Check.of(() -> x.type(characters, n - 1)), "480");
                Check.refusedCall("type to 481", x, () -> x.type(characters, 1), STATE);
                Check.due("forge() of what is there", Check.of(x::forge), "throws " + REFUSED);
                Check.due("where()", x.where(), 481 - n);
            }
            Check.due("clear()", x.clear(), n > 1 ? 480 : 480 - n + 1);
            Check.due("type behind clear()", x.type(characters, n), n);
        }
        TinyForge x = used();
        Check.retype(x, right + " ".repeat(459));
        Check.refusedCall("type to 488", x, () -> x.type(Check.bytes("        "), 8), STATE);
        Check.due("clear()", x.clear(), 480);
        Check.typeAll(x, right);
        isAsUsed(x);
    }

    private static void argumentBeforeState() {
        Check.sentence("n is not 1 .. 8, or one is no character. IllegalStateException: it would be too long");
        TinyForge x = Check.typed(" ".repeat(480));
        Check.refusedCall("type of none", x, () -> x.type(' ', 0), ARGUMENT);
        Check.refusedCall("type of nine", x, () -> x.type(Check.bytes("        "), 9), ARGUMENT);
        Check.refusedCall("type of no character", x, () -> x.type(9, 1), ARGUMENT);
        Check.refusedCall("type of a character", x, () -> x.type(10, 1), STATE);
        Check.due("clear()", x.clear(), 480);
    }

    private static void typeLeavesTheForged() {
        Check.sentence("(What was forged stays.)");
        TinyForge x = Check.forged(TEXT);
        x.type('$', 1);
        Check.due("run() behind type()", Check.of(x::run), "0");
        Check.due("result() behind type()", x.result(), 7);
        x.type('$', 1);
        Check.due("told behind type()", Check.told(x), "why 0 where -1 result 7 ticks 1 output 2 0 0 0");
        x = Check.typed("$");
        Check.due("forge()", Check.of(x::forge), "throws " + REFUSED);
        x.clear();
        Check.typeAll(x, TEXT);
        Check.due("why() behind type()", x.why(), 1);
        Check.due("where() behind type()", x.where(), 0);
        Check.due("run() of what was only typed", Check.of(x::run), "throws " + NOTHING);
    }

    private static void clear() {
        Check.sentence("The text becomes empty: how long it was");
        for (int length : new int[] {0, 1, 2, 479, 480}) {
            TinyForge x = Check.typed(" ".repeat(length));
            Check.due("clear()", x.clear(), length);
            Check.due("clear() again", x.clear(), 0);
            Check.due("type behind clear()", x.type('$', 1), 1);
            Check.due("forge()", Check.of(x::forge), "throws " + REFUSED);
            Check.due("where()", x.where(), 0);
        }
        TinyForge x = used();
        String told = Check.told(x);
        Check.due("clear()", x.clear(), 21);
        Check.due("told behind clear()", Check.told(x), told);
        Check.due("run() behind clear()", Check.of(x::run), "0");
        Check.due("told behind run()", Check.told(x), told);
        Check.due("empty() behind clear()", x.empty(), 2);
        Check.due("forge() of nothing", Check.of(x::forge), "throws " + REFUSED);
        Check.due("why()", x.why(), 3);
        Check.due("where()", x.where(), 0);
    }

    private static void forge() {
        Check.sentence("Forges the text: how many functions it has");
        StringBuilder more = new StringBuilder();
        for (int functions = 1; functions <= 8; functions++) {
            Check.accepted("int main(){}" + more, functions);
            Check.accepted(more + "int a[1];int main(){}", functions);
            more.append("int f").append(functions).append("(){}");
        }
        Check.refusedAtMark("int main(){}" + more.toString().replace("f8", "#f8"), 4);
        TinyForge x = used();
        Check.due("forge() of another text", x.forge(), 1);
        Check.due("forge() again", x.forge(), 1);
        Check.due("run()", x.run(), 0);
        Check.due("result()", x.result(), 8);
        Check.due("the text stays", x.clear(), 21);
        Check.due("the input stays", x.empty(), 2);
    }

    private static void refusedForge() {
        Check.sentence("UnsupportedOperationException: it is refused; nothing is forged then");
        for (int k = 0; k < WRONG.length; k++) {
            TinyForge x = used();
            Check.retype(x, WRONG[k]);
            for (int times = 0; times < 2; times++) {
                Check.due("forge()", Check.of(x::forge), "throws " + REFUSED);
                Check.due("told behind it", Check.told(x),
                        "why " + (k + 1) + " where " + PLACES[k] + " result 0 ticks 0 output 0 0");
                Check.refusedCall("run()", x, x::run, NOTHING);
            }
            Check.due("the text stays", x.clear(), WRONG[k].length());
            Check.due("give: the input stays", x.give(5), 3);
            Check.typeAll(x, TEXT);
            Check.due("run() ahead of forge()", Check.of(x::run), "throws " + NOTHING);
            Check.due("forge()", Check.of(x::forge), "1");
            Check.due("run()", Check.of(x::run), "0");
            Check.due("told", Check.told(x), "why 0 where -1 result 7 ticks 1 output 2 -3 4 0");
        }
    }

    /** Texts at and beyond each bound: right ones give 5; of the others the reason stands ahead, and a # at the place. */
    private static String[] textsAtBounds() {
        StringBuilder functions = new StringBuilder();
        StringBuilder variables = new StringBuilder();
        for (int k = 1; k <= 7; k++) {
            functions.append("int f").append(k).append("(){}");
        }
        for (int k = 1; k <= 12; k++) {
            variables.append("int v").append(k).append("=5;");
        }
        String blocks = "{".repeat(11);
        String arrays = "int a[1];int b[16];int c[2];int d[3];";
        return new String[] {"int main(){return 5;}",
            "int main(){" + blocks + "return 5;" + "}".repeat(12),
            "2int main(){" + blocks + "#{return 5;" + "}".repeat(13),
            "2int main(){" + blocks + "return #(5);" + "}".repeat(12),
            "int main(){return " + "-".repeat(10) + "5;}",
            "2int main(){return " + "-".repeat(11) + "#-5;}",
            "int main(){-1;" + "1;".repeat(104) + "return 5;}",
            "2int main(){" + "1;".repeat(106) + "return 5;#}",
            "int main(){" + variables + "return v12;}",
            "4int main(){" + variables + "{int #v1=5;}}",
            "4int f(int a,int b){{int c=1;{int d=#e;}}}int main(){}",
            "3int f(int a,int b){{int c=1;{int d=2;while(#)}}}int main(){}",
            arrays + "int main(){d[2]=5;return d[2]+a[0];}",
            "4" + arrays + "int #e[1];int main(){}",
            functions + "int main(){return f7()+5;}",
            "4" + functions + "int main(){}int #f8(){}",
            "4" + functions + "#",
            "3int main(){return 5;#",
            "1int main(){return 5;}#$",
            "3#"};
    }

    private static void forgeAndCheck(TinyForge x, String marked) {
        boolean right = marked.indexOf('#') < 0;
        Check.retype(x, right ? marked : marked.substring(1).replace("#", ""));
        Check.due("forge() of " + marked, Check.of(x::forge).startsWith("throws"), !right);
        Check.due("why() of " + marked, x.why(), right ? 0 : marked.charAt(0) - '0');
        Check.due("where() of " + marked, x.where(), right ? -1 : marked.indexOf('#') - 1);
        Check.due("run() of " + marked, Check.of(x::run), right ? "0" : "throws " + NOTHING);
        Check.due("result() of " + marked, x.result(), right ? 5 : 0);
    }

    /** Whatever was forged or refused ahead, a text is taken as by a new object. */
    private static void forgedBehindAnother() {
        Check.sentence("Forges the text");
        for (String first : textsAtBounds()) {
            for (String second : textsAtBounds()) {
                TinyForge x = new TinyForge();
                forgeAndCheck(x, first);
                forgeAndCheck(x, second);
                forgeAndCheck(x, first);
            }
        }
    }

    private static void why() {
        Check.sentence("Why the latest forge() refused the text (1 to 4); 0 when it did not, or there was none");
        TinyForge x = Check.typed("$");
        Check.due("why() ahead of any forge()", x.why(), 0);
        for (int k = 0; k < 2 * WRONG.length; k++) {
            Check.retype(x, WRONG[k % 4]);
            Check.due("why() ahead of forge()", x.why(), k == 0 ? 0 : (k - 1) % 4 + 1);
            Check.due("forge()", Check.of(x::forge), "throws " + REFUSED);
            Check.due("why()", x.why(), k % 4 + 1);
            Check.due("why() again", x.why(), k % 4 + 1);
        }
        Check.retype(x, "int main()" + "{".repeat(13));
        Check.due("forge()", Check.of(x::forge), "throws " + REFUSED);
        Check.due("why() of too much that is open", x.why(), 2);
        Check.retype(x, TEXT);
        Check.due("forge()", Check.of(x::forge), "1");
        Check.due("why() of a right text", x.why(), 0);
    }

    private static void where() {
        Check.sentence("The place at which it refused it; -1 when it did not");
        TinyForge x = Check.typed("$");
        Check.due("where() ahead of any forge()", x.where(), -1);
        for (int k = 0; k < WRONG.length; k++) {
            Check.retype(x, WRONG[k]);
            Check.due("where() ahead of forge()", x.where(), k == 0 ? -1 : PLACES[k - 1]);
            Check.due("forge()", Check.of(x::forge), "throws " + REFUSED);
            Check.due("where()", x.where(), PLACES[k]);
            Check.due("where() again", x.where(), PLACES[k]);
        }
        Check.retype(x, TEXT);
        Check.due("forge()", Check.of(x::forge), "1");
        Check.due("where() of a right text", x.where(), -1);
        Check.refused("", 3, 0);
        Check.refused(" ".repeat(480), 3, 480);
        Check.refused(" ".repeat(479) + "$", 1, 479);
    }

    private static void give() {
        Check.sentence("how many there are. IllegalStateException: 20 are there");
        TinyForge x = Check.typed("int main(){int i=0;while(i<21){print(read());i=i+1;}}");
        int[] due = new int[21];
        for (int k = 0; k < 20; k++) {
            due[k] = k % 2 == 0 ? Integer.MAX_VALUE - k : Integer.MIN_VALUE + k;
            Check.due("give", x.give(due[k]), k + 1);
        }
        Check.refusedCall("give of the 21st", x, () -> x.give(5), STATE);
        Check.refusedCall("give of the 21st again", x, () -> x.give(0), STATE);
        x.forge();
        x.run();
        Check.refusedCall("give of the 21st behind a run", x, () -> x.give(6), STATE);
        Check.put(x, due);
        x.run();
        Check.put(x, due);
        Check.due("empty()", x.empty(), 20);
        Check.due("give behind empty()", x.give(9), 1);
    }

    private static void empty() {
        Check.sentence("The input becomes empty: how many numbers it had");
        for (int count : new int[] {0, 1, 2, 19, 20}) {
            TinyForge x = Check.forged("int main(){return read();}");
            for (int k = 0; k < count; k++) {
                x.give(k + 3);
            }
            Check.due("run()", x.run(), 0);
            String told = Check.told(x);
            Check.due("empty()", x.empty(), count);
            Check.due("empty() again", x.empty(), 0);
            Check.due("told behind empty()", Check.told(x), told);
            Check.due("result() of the run ahead", x.result(), count == 0 ? 0 : 3);
            Check.due("run() without input", x.run(), 0);
            Check.due("result()", x.result(), 0);
            Check.due("give", x.give(8), 1);
            Check.due("run()", x.run(), 0);
            Check.due("result()", x.result(), 8);
        }
    }

    private static void run() {
        Check.sentence("with the input from its first number on (it stays): 0 it came to its end, 1 TRAP, 2 SPENT");
        TinyForge x = Check.forged("int a[1];int main(){int n=read();print(n);if(n==1)a[n]=1;if(n==2)while(1)1;"
                + "print(read());return n+10;}");
        int[] inputs = {0, 1, 2, 1, 0, 2, 0};
        for (int n : inputs) {
            x.empty();
            x.give(n);
            x.give(5);
            for (int times = 0; times < 2; times++) {
                Check.due("run()", Check.of(x::run), Integer.toString(n));
                Check.due("result()", x.result(), n == 0 ? 10 : 0);
                Check.due("ticks()", x.ticks(), n == 2 ? 400 : 1);
                Check.put(x, n == 0 ? new int[] {0, 5} : new int[] {n});
            }
        }
        Check.due("the input stays", x.empty(), 2);
    }

    private static void runOfNothing() {
        Check.sentence("NoSuchElementException: nothing is forged");
        TinyForge x = Check.typed(TEXT);
        x.give(4);
        Check.refusedCall("run() ahead of forge()", x, x::run, NOTHING);
        Check.refusedCall("run() ahead of forge() again", x, x::run, NOTHING);
        Check.due("give: the input stays", x.give(5), 2);
        Check.due("forge(): the text stays", Check.of(x::forge), "1");
        Check.due("run()", Check.of(x::run), "0");
        Check.put(x, 4, 5);
        Check.typeAll(x, "$");
        Check.due("forge()", Check.of(x::forge), "throws " + REFUSED);
        Check.refusedCall("run() of a refused text", x, x::run, NOTHING);
        Check.due("why() stays", x.why(), 1);
        Check.due("where() stays", x.where(), TEXT.length());
        Check.due("empty()", x.empty(), 2);
        Check.due("clear()", x.clear(), TEXT.length() + 1);
    }

    /** An object of which one run came to its end, and a second one ended in this way. */
    private static TinyForge ranThen(int state) {
        TinyForge x = Check.forged("int a[1];int main(){int n=read();print(n+3);if(n==1)a[n]=1;if(n==2)while(1)1;"
                + "print(n+4);return 7;}");
        Check.due("run()", x.run(), 0);
        x.give(state);
        Check.due("run()", x.run(), state);
        return x;
    }

    private static void result() {
        Check.sentence("What main gave in the latest run; 0 when that came to no end, or there was none since the "
                + "latest forge()");
        for (int state = 0; state < 3; state++) {
            TinyForge x = ranThen(state);
            Check.due("result()", x.result(), state == 0 ? 7 : 0);
            Check.due("result() again", x.result(), state == 0 ? 7 : 0);
            x.empty();
            Check.due("run()", x.run(), 0);
            Check.due("result()", x.result(), 7);
            Check.due("forge()", x.forge(), 1);
            Check.due("result() behind forge()", x.result(), 0);
        }
        for (int value : new int[] {Integer.MIN_VALUE, -1, 0, 1, Integer.MAX_VALUE}) {
            Check.value("read()", value, value);
        }
        Check.ran("int f(){return 3;}int main(){f();}", 0, 0, 2);
    }

    private static void output() {
        Check.sentence("How many numbers the latest run put out (k = -1), or number k of them; 0 when there is none, "
                + "or there was no run since the latest forge()");
        for (int state = 0; state < 3; state++) {
            TinyForge x = ranThen(state);
            Check.put(x, state == 0 ? new int[] {3, 4} : new int[] {state + 3});
            for (int k : new int[] {2, 3, 29, 30, 31, -2, -3, Integer.MIN_VALUE, Integer.MAX_VALUE}) {
                Check.due("output(" + k + ")", x.output(k), 0);
            }
            // The second number of an earlier run is not one of the latest.
            Check.due("output(1)", x.output(1), state == 0 ? 4 : 0);
            Check.due("forge()", x.forge(), 1);
            for (int k = -2; k < 32; k++) {
                Check.due("output(" + k + ") behind forge()", x.output(k), 0);
            }
        }
        TinyForge x = Check.ran("int main(){int i=0;while(i<30){i=i+1;print(i);}}", 0, 0, 32);
        Check.due("output(-1)", x.output(-1), 30);
        for (int k = 0; k < 30; k++) {
            Check.due("output(" + k + ")", x.output(k), k + 1);
        }
        Check.due("output(30)", x.output(30), 0);
    }

    private static void ticks() {
        Check.sentence("How many ticks the latest run had (at most 400); 0 when there was none since the latest "
                + "forge()");
        for (int state = 0; state < 3; state++) {
            TinyForge x = ranThen(state);
            Check.due("ticks()", x.ticks(), state == 2 ? 400 : 1);
            x.empty();
            Check.due("run()", x.run(), 0);
            Check.due("ticks() of the latest", x.ticks(), 1);
            Check.due("forge()", x.forge(), 1);
            Check.due("ticks() behind forge()", x.ticks(), 0);
        }
        String text = "int main(){int n=read();while(n>0)n=n-1;}";
        Check.ran(text, new int[] {397}, 0, 0, 399);
        Check.ran(text, new int[] {398}, 0, 0, 400);
        Check.ran(text, new int[] {399}, 2, 0, 400);
        Check.ran(text, new int[] {Integer.MAX_VALUE}, 2, 0, 400);
    }

    private static void calls512() {
        Check.sentence("An object is used for at most 512 calls after it has been made");
        TinyForge x = new TinyForge();
        int calls = 0;
        for (char c : TEXT.toCharArray()) {
            Check.due("type", x.type(c, 1), ++calls);
        }
        x.forge();
        for (calls++; calls < 510; calls += 4) {
            x.empty();
            x.give(calls);
            Check.due("run()", x.run(), 0);
            Check.due("output(0)", x.output(0), calls);
        }
        Check.due("calls so far", calls, 510);
        Check.due("call 511", x.run(), 0);
        Check.due("call 512", x.result(), 7);
    }
}
