/** Promises 7 (give) and 8 (empty), and how runs read the input. */
public final class InputTest {
    public static void main(String[] args) {
        atMostTwenty();
        emptied();
        readFromTheFirstOn();
        apartFromTheText();
        Check.end();
    }

    private static void atMostTwenty() {
        TinyForge x = new TinyForge();
        for (int k = 1; k <= 20; k++) {
            Check.due("give", x.give(-k), k);
        }
        Check.due("give of the 21st", Check.of(() -> x.give(1)), "throws IllegalStateException");
        Check.due("give of the 21st", Check.of(() -> x.give(0)), "throws IllegalStateException");
        Check.due("empty()", x.empty(), 20);
        Check.due("give behind empty()", x.give(5), 1);
    }

    private static void emptied() {
        TinyForge x = new TinyForge();
        Check.due("empty()", x.empty(), 0);
        x.give(Integer.MIN_VALUE);
        x.give(Integer.MAX_VALUE);
        Check.due("empty()", x.empty(), 2);
        Check.due("empty() again", x.empty(), 0);
        Check.typeAll(x, "int main(){print(read());return read();}");
        Check.due("forge()", x.forge(), 1);
        Check.due("run()", x.run(), 0);
        Check.put(x, 0);
        x.give(3);
        Check.due("run()", x.run(), 0);
        Check.put(x, 3);
        Check.due("result()", x.result(), 0);
    }

    private static void readFromTheFirstOn() {
        TinyForge x = Check.forged("int main(){int i=0;while(i<21){print(read());i=i+1;}return read();}");
        int[] due = new int[21];
        for (int k = 0; k < 20; k++) {
            x.give(100 - k);
            due[k] = 100 - k;
        }
        for (int k = 0; k < 2; k++) {
            Check.due("run()", x.run(), 0);
            Check.put(x, due);
        }
        Check.due("empty() behind runs", x.empty(), 20);
        x.give(Integer.MIN_VALUE);
        x.run();
        Check.due("output(0)", x.output(0), Integer.MIN_VALUE);
        Check.due("output(1)", x.output(1), 0);
        Check.due("give between runs", x.give(9), 2);
        Check.due("output stays", x.output(1), 0);
        x.run();
        Check.due("output(1)", x.output(1), 9);
    }

    private static void apartFromTheText() {
        TinyForge x = Check.typed("int main(){return read();}");
        x.give(4);
        x.clear();
        Check.due("forge()", Check.of(x::forge), "throws UnsupportedOperationException");
        Check.due("give", x.give(5), 2);
        Check.typeAll(x, "int main(){return read()*10+read();}");
        x.forge();
        x.run();
        Check.due("result()", x.result(), 45);
        x.empty();
        Check.due("result() behind empty()", x.result(), 45);
    }
}
