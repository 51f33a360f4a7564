/** Promises 4 (forge), 5 (why) and 6 (where) over several calls, and what a forge() ends. */
public final class ForgeTest {
    private static final String REFUSED = "throws UnsupportedOperationException";

    public static void main(String[] args) {
        answersOfTheLatest();
        nothingForgedBehindARefusal();
        runsBeforeAForgeAreForgotten();
        forgedAnew();
        textStays();
        Check.end();
    }

    private static void answersOfTheLatest() {
        TinyForge x = Check.typed("int main(){return y;}");
        Check.due("why() ahead of forge()", x.why(), 0);
        Check.due("where() ahead of forge()", x.where(), -1);
        for (int k = 0; k < 2; k++) {
            Check.due("forge()", Check.of(x::forge), REFUSED);
            Check.due("why()", x.why(), 4);
            Check.due("where()", x.where(), 18);
        }
        Check.retype(x, "int main(){} $");
        Check.due("why() stays", x.why(), 4);
        Check.due("where() stays", x.where(), 18);
        Check.due("forge()", Check.of(x::forge), REFUSED);
        Check.due("why()", x.why(), 1);
        Check.due("where()", x.where(), 13);
        Check.retype(x, "int f(){}int main(){}int g(){}int a[2];");
        Check.due("forge()", Check.of(x::forge), "3");
        Check.due("why()", x.why(), 0);
        Check.due("where()", x.where(), -1);
        Check.retype(x, "(");
        Check.due("forge()", Check.of(x::forge), REFUSED);
        Check.due("why()", x.why(), 3);
        Check.due("where()", x.where(), 0);
    }

    private static void nothingForgedBehindARefusal() {
        for (String wrong : new String[] {"$", ";".repeat(221), "int", "int f(){}"}) {
            TinyForge x = Check.forged("int main(){return 5;}");
            Check.due("run()", Check.of(x::run), "0");
            Check.retype(x, wrong);
            Check.due("run() ahead of forge()", Check.of(x::run), "0");
            Check.due("forge()", Check.of(x::forge), REFUSED);
            Check.due("run()", Check.of(x::run), "throws NoSuchElementException");
            Check.due("result()", x.result(), 0);
            Check.due("ticks()", x.ticks(), 0);
            Check.due("output(-1)", x.output(-1), 0);
            Check.retype(x, "int main(){return 6;}");
            Check.due("forge()", Check.of(x::forge), "1");
            Check.due("run()", Check.of(x::run), "0");
            Check.due("result()", x.result(), 6);
        }
    }

    private static void runsBeforeAForgeAreForgotten() {
        TinyForge x = Check.ran("int main(){print(7);print(8);return 9;}", 0, 9, 1);
        Check.put(x, 7, 8);
        Check.due("forge()", Check.of(x::forge), "1");
        Check.due("result()", x.result(), 0);
        Check.due("ticks()", x.ticks(), 0);
        Check.put(x);
        Check.due("output(0)", x.output(0), 0);
        Check.due("run()", Check.of(x::run), "0");
        Check.due("result()", x.result(), 9);
        Check.put(x, 7, 8);
    }

    private static void forgedAnew() {
        TinyForge x = Check.forged("int a[16];int f(int p,int q){return p-q;}int main(){return f(9,1);}");
        Check.due("run()", x.run(), 0);
        Check.due("result()", x.result(), 8);
        Check.retype(x, "int b[2];int g(int p){return b[p];}int main(){b[1]=4;return g(1);}");
        Check.due("forge()", Check.of(x::forge), "2");
        Check.due("run()", x.run(), 0);
        Check.due("result()", x.result(), 4);
        Check.retype(x, "int main(){return f(9,1);}");
        Check.due("forge()", Check.of(x::forge), REFUSED);
        Check.due("where()", x.where(), 18);
    }

    private static void textStays() {
        TinyForge x = Check.typed("int main(){");
        Check.due("forge()", Check.of(x::forge), REFUSED);
        Check.typeAll(x, "}");
        Check.due("forge()", Check.of(x::forge), "1");
        Check.due("clear()", x.clear(), 12);
    }
}
