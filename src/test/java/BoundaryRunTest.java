/** The boundaries that "Terms" names for values and for running, sentence by sentence. */
public final class BoundaryRunTest {
    private static final int ENDED = 0;
    private static final int TRAP = 1;
    private static final int SPENT = 2;
    private static final int MIN = Integer.MIN_VALUE;
    private static final int MAX = Integer.MAX_VALUE;
    private static final int[] EDGES = {MIN, MIN + 1, -46341, -2, -1, 0, 1, 2, 46341, 65536, MAX - 1, MAX};

    public static void main(String[] args) {
        intsThatWrap();
        byZero();
        roundedTowardsZero();
        comparisons();
        truths();
        notLookedAt();
        fromTheLeft();
        indexThenValue();
        elementsThatAreNotThere();
        elementsThatAreSet();
        reads();
        prints();
        arraysAreAllZero();
        mainIsCalled();
        behindTheLastStatement();
        theTick401();
        ticksOfLoops();
        ticksOfCalls();
        twelveCalls();
        endsAtOnce();
        Check.end();
    }

    /** The value of two numbers that come in and a sign between them. */
    private static void sign(String sign, int first, int second, int want) {
        Check.value("read()" + sign + "read()", want, first, second);
    }

    private static void intsThatWrap() {
        Check.sentence("VALUES are ints that wrap");
        for (int first : EDGES) {
            for (int second : EDGES) {
                sign("+", first, second, (int) ((long) first + second));
                sign("-", first, second, (int) ((long) first - second));
                sign("*", first, second, (int) ((long) first * second));
            }
            Check.value("-read()", (int) -(long) first, first);
            Check.value("~read()", (int) (-1 - (long) first), first);
        }
        Check.value("2147483647+1", MIN);
        Check.value("-2147483647-1", MIN);
        Check.value("-2147483647-2", MAX);
        Check.value("-(-2147483647-1)", MIN);
        Check.value("2147483647*2", -2);
    }

    private static void byZero() {
        Check.sentence("\"/\" and \"%\" by 0 are -1 and the first value");
        for (int first : EDGES) {
            sign("/", first, 0, -1);
            sign("%", first, 0, first);
        }
    }

    private static void roundedTowardsZero() {
        Check.sentence("otherwise rounded towards 0");
        for (int first : EDGES) {
            for (int second : EDGES) {
                if (second != 0) {
                    long quotient = Math.abs((long) first) / Math.abs((long) second);
                    quotient = first < 0 == second < 0 ? quotient : -quotient;
                    sign("/", first, second, (int) quotient);
                    sign("%", first, second, (int) (first - quotient * second));
                }
            }
        }
        sign("/", MIN, -1, MIN);
        sign("%", MIN, -1, 0);
        sign("/", -7, 2, -3);
        sign("%", -7, 2, -1);
        sign("/", 7, -2, -3);
        sign("%", 7, -2, 1);
    }

    private static void comparisons() {
        Check.sentence("Comparisons, \"!\", \"&&\", \"||\" give 1 or 0");
        for (int first : EDGES) {
            for (int second : EDGES) {
                int order = Long.signum((long) first - second);
                sign("<", first, second, order < 0 ? 1 : 0);
                sign(">", first, second, order > 0 ? 1 : 0);
                sign("<=", first, second, order <= 0 ? 1 : 0);
                sign(">=", first, second, order >= 0 ? 1 : 0);
                sign("==", first, second, order == 0 ? 1 : 0);
                sign("!=", first, second, order != 0 ? 1 : 0);
                sign("&&", first, second, first != 0 && second != 0 ? 1 : 0);
                sign("||", first, second, first != 0 || second != 0 ? 1 : 0);
            }
            Check.value("!read()", first == 0 ? 1 : 0, first);
        }
    }

    private static void truths() {
        Check.sentence("(true is what is not 0)");
        for (int value : EDGES) {
            int[] input = {value};
            Check.ran("int main(){if(read())return 1;else return 2;}", input, ENDED, value != 0 ? 1 : 2, 1);
            Check.ran("int main(){while(read())return 1;return 2;}", input, ENDED, value != 0 ? 1 : 2, 2);
        }
    }

    private static void notLookedAt() {
        Check.sentence("the second part of \"&&\" and \"||\" is not looked at when the first one says it");
        for (int first : EDGES) {
            // Each part that is looked at takes a number: what is left for print tells how many were.
            String text = "int main(){read()@read();print(read());}";
            Check.put(Check.ran(text.replace("@", "&&"), new int[] {first, 7, 8}, ENDED, 0, 1), first == 0 ? 7 : 8);
            Check.put(Check.ran(text.replace("@", "||"), new int[] {first, 7, 8}, ENDED, 0, 1), first == 0 ? 8 : 7);
        }
        Check.ran("int a[1];int main(){return (0&&a[1])+(1||a[1]);}", ENDED, 1, 1);
        Check.ran("int a[1];int main(){return 1&&a[1];}", TRAP, 0, 1);
        Check.ran("int a[1];int main(){return 0||a[1];}", TRAP, 0, 1);
        Check.ran("int f(){return 1;}int main(){0&&f();1||f();return 5;}", ENDED, 5, 1);
        Check.ran("int f(){return 1;}int main(){1&&f();0||f();return 5;}", ENDED, 5, 3);
        Check.value("1||read()&&0", 1);
        Check.value("0&&read()||read()", 1, 7, 0);
        Check.value("(1||read())&&read()", 1, 7, 0);
    }

    private static void fromTheLeft() {
        Check.sentence("Parts are worked out from the left");
        String[] signs = {"+", "-", "*", "/", "%", "<", ">", "<=", ">=", "==", "!="};
        int[] dues = {9, 5, 14, 3, 1, 0, 1, 0, 1, 0, 1};
        for (int k = 0; k < signs.length; k++) {
            sign(signs[k], 7, 2, dues[k]);
        }
        Check.value("read()-read()-read()", 5, 10, 3, 2);
        Check.value("read()-(read()-read())", 9, 10, 3, 2);
        Check.value("read()-read()*read()", 4, 10, 3, 2);
        Check.ran("int f(int a,int b,int c,int d){return a*1000+b*100+c*10+d;}"
                + "int main(){return f(read(),read(),read(),read());}", new int[] {1, 2, 3, 4}, ENDED, 1234, 2);
        // A first part keeps its value whatever the second one does.
        Check.ran("int a[1];int f(){a[0]=5;return 1;}int main(){return a[0]+f();}", ENDED, 1, 2);
        Check.ran("int a[1];int f(){a[0]=5;return 1;}int main(){return f()+a[0];}", ENDED, 6, 2);
    }

    private static void indexThenValue() {
        Check.sentence("of NAME \"[\" value \"]\" \"=\" value the index first, then the value");
        Check.ran("int a[9];int main(){a[read()]=read();return a[3]*10+a[5];}", new int[] {3, 5}, ENDED, 50, 1);
        Check.ran("int a[3];int f(){a[0]=2;return 9;}int main(){a[a[0]]=f();return a[0]*10+a[2];}", ENDED, 90, 2);
        Check.put(Check.ran("int a[1];int f(int n){print(n);return 0;}int main(){a[f(1)]=f(2);}", ENDED, 0, 3), 1, 2);
    }

    private static void elementsThatAreNotThere() {
        Check.sentence("An array's element that is not there is a TRAP");
        for (int length : new int[] {1, 2, 16}) {
            String text = "int b[16];int a[" + length + "];int c[16];int main(){print(1);print(a[read()]);return 1;}";
            for (int index : new int[] {0, length - 1}) {
                Check.put(Check.ran(text, new int[] {index}, ENDED, 1, 1), 1, 0);
            }
            for (int index : new int[] {-1, length, -length, length + 1, 16, 17, -16, 256, MIN, MAX}) {
                Check.put(Check.ran(text, new int[] {index}, TRAP, 0, 1), 1);
            }
        }
        Check.ran("int a[1];int main(){a[1];}", TRAP, 0, 1);
        Check.ran("int a[1];int main(){a[0];}", ENDED, 0, 1);
    }

    private static void elementsThatAreSet() {
        Check.sentence("(for an element that is set, when its value has been worked out)");
        for (int length : new int[] {1, 2, 16}) {
            String text = "int b[16];int a[" + length + "];int c[16];int f(){print(7);return 3;}"
                    + "int main(){int i=read();a[i]=f();print(8);return a[i];}";
            for (int index : new int[] {0, length - 1}) {
                Check.put(Check.ran(text, new int[] {index}, ENDED, 3, 2), 7, 8);
            }
            for (int index : new int[] {-1, length, length + 1, MIN, MAX}) {
                Check.put(Check.ran(text, new int[] {index}, TRAP, 0, 2), 7);
            }
        }
        Check.ran("int a[1];int main(){a[1]=main();}", SPENT, 0, 12);
        Check.ran("int a[1];int main(){a[a[1]]=main();}", TRAP, 0, 1);
    }

    private static void reads() {
        Check.sentence("read gives the next number of the input, 0 when there is none");
        String text = "int main(){int n=read();print(n);print(read());print(read());return n;}";
        Check.put(Check.ran(text, ENDED, 0, 1), 0, 0, 0);
        Check.put(Check.ran(text, new int[] {MIN}, ENDED, MIN, 1), MIN, 0, 0);
        Check.put(Check.ran(text, new int[] {1, MAX}, ENDED, 1, 1), 1, MAX, 0);
        Check.put(Check.ran(text, new int[] {1, 2, 3}, ENDED, 1, 1), 1, 2, 3);
        Check.put(Check.ran(text, new int[] {1, 2, 3, 4}, ENDED, 1, 1), 1, 2, 3);
        int[] twenty = new int[20];
        for (int k = 0; k < 20; k++) {
            twenty[k] = k + 1;
        }
        Check.ran("int main(){int i=0;while(i<19){i=i+1;read();}return read();}", twenty, ENDED, 20, 21);
        Check.ran("int main(){int i=0;while(i<20){i=i+1;read();}return read();}", twenty, ENDED, 0, 22);
        Check.ran("int main(){int i=0;while(i<390){i=i+1;read();}return read();}", twenty, ENDED, 0, 392);
    }

    private static void prints() {
        Check.sentence("print puts a number out; the 31st is a TRAP");
        String text = "int main(){int n=read();int i=0;while(i<n){print(i*i);i=i+1;}return 5;}";
        for (int count : new int[] {0, 1, 29, 30}) {
            int[] squares = new int[count];
            for (int k = 0; k < count; k++) {
                squares[k] = k * k;
            }
            Check.put(Check.ran(text, new int[] {count}, ENDED, 5, count + 2), squares);
        }
        for (int count : new int[] {31, 32, 99}) {
            TinyForge x = Check.ran(text, new int[] {count}, TRAP, 0, 32);
            Check.due("output(-1)", x.output(-1), 30);
            Check.due("output(0)", x.output(0), 0);
            Check.due("output(29)", x.output(29), 29 * 29);
            Check.due("output(30)", x.output(30), 0);
        }
        // Its value is worked out ahead.
        Check.ran("int f(){return 1;}int main(){" + "print(1);".repeat(30) + "print(f());}", TRAP, 0, 2);
    }

    private static void arraysAreAllZero() {
        Check.sentence("Arrays are all 0");
        TinyForge x = Check.forged("int a[16];int b[16];int main(){int s=0;int i=0;while(i<16){s=s+a[i]+b[i];"
                + "a[i]=9;b[i]=9;i=i+1;}return s;}");
        for (int k = 0; k < 3; k++) {
            Check.due("run()", x.run(), ENDED);
            Check.due("result()", x.result(), 0);
        }
        Check.retype(x, "int c[16];int d[16];int main(){int s=0;int i=0;while(i<16){s=s+c[i]+d[i];i=i+1;}return s;}");
        Check.due("forge()", x.forge(), 1);
        Check.due("run()", x.run(), ENDED);
        Check.due("result() of another text", x.result(), 0);
        // Ended by a TRAP, a run leaves nothing behind either.
        Check.retype(x, "int a[1];int main(){int n=a[0];a[0]=4;a[n+1]=1;}");
        x.forge();
        for (int k = 0; k < 2; k++) {
            Check.due("run()", x.run(), TRAP);
        }
        Check.retype(x, "int a[1];int main(){a[0]=a[0]+1;if(read())while(1){}return a[0];}");
        x.forge();
        x.give(1);
        Check.due("run()", x.run(), SPENT);
        x.empty();
        Check.due("run()", x.run(), ENDED);
        Check.due("result()", x.result(), 1);
    }

    private static void mainIsCalled() {
        Check.sentence("main is called (a call as any other)");
        Check.ran("int main(){}", ENDED, 0, 1);
        Check.ran("int main(){return 5;}", ENDED, 5, 1);
        Check.ran("int f(){}int main(){}", ENDED, 0, 1);
        Check.ran("int a[1];int main(){a[0]=a[0]+1;if(a[0]<3)return main();return a[0];}", ENDED, 3, 3);
    }

    private static void behindTheLastStatement() {
        Check.sentence("A function gives what it returns, or 0 behind its last statement");
        Check.ran("int f(){}int main(){return f()+5;}", ENDED, 5, 2);
        Check.ran("int f(){7;}int main(){return f()+5;}", ENDED, 5, 2);
        Check.ran("int f(int p){p=8;if(0)return 9;}int main(){return f(7)+5;}", ENDED, 5, 2);
        Check.ran("int f(int p){if(p)return 9;}int main(){return f(0)*10+f(1);}", ENDED, 9, 3);
        Check.ran("int f(){while(1){{return 3;}return 4;}return 5;}int main(){return f();}", ENDED, 3, 3);
        Check.ran("int main(){1;2;3;}", ENDED, 0, 1);
        // Nothing that stood in a variable is taken for it.
        String full = "int a=1;int b=2;int c=3;int d=4;int e=5;int g=6;int h=7;int i=8;int j=9;int k=1;int l=2;"
                + "int m=3;";
        Check.ran("int main(){" + full + "}", ENDED, 0, 1);
        Check.ran("int f(){" + full + "}int main(){return f()+f();}", ENDED, 0, 3);
        Check.ran("int main(){return -2147483647-1;return 1;}", ENDED, MIN, 1);
    }

    private static void theTick401() {
        Check.sentence("the 401st tick ends the run, SPENT");
        String loop = "int main(){int i=0;while(i<@)i=i+1;return i;}";
        Check.ran(loop.replace("@", "397"), ENDED, 397, 399);
        Check.ran(loop.replace("@", "398"), ENDED, 398, 400);
        Check.ran(loop.replace("@", "399"), SPENT, 0, 400);
        Check.ran(loop.replace("@", "400"), SPENT, 0, 400);
        String calls = "int f(){return 1;}int main(){int i=0;while(i<100){i=i+1;f();f();f();}@return 5;}";
        // One for main, 101 for the loop, 300 for its calls are too many by two.
        Check.ran(calls.replace("@", ""), SPENT, 0, 400);
        Check.ran(calls.replace("100", "99").replace("@", ""), ENDED, 5, 398);
        Check.ran(calls.replace("100", "99").replace("@", "f();"), ENDED, 5, 399);
        Check.ran(calls.replace("100", "99").replace("@", "f();f();"), ENDED, 5, 400);
        Check.ran(calls.replace("100", "99").replace("@", "f();f();f();"), SPENT, 0, 400);
        Check.ran(calls.replace("100", "99").replace("@", "f();f();while(0)1;"), SPENT, 0, 400);
        // What is no tick goes on behind the 400th.
        Check.put(Check.ran("int main(){int i=0;while(i<398)i=i+1;if(i)print(i);return i/2;}", ENDED, 199, 400), 398);
    }

    private static void ticksOfLoops() {
        Check.sentence("each time that a \"while\" looks at its value, is a TICK");
        Check.ran("int main(){while(0)1;}", ENDED, 0, 2);
        Check.ran("int main(){int i=0;while(i<1)i=i+1;}", ENDED, 0, 3);
        Check.ran("int main(){int i=0;while(i<2)i=i+1;}", ENDED, 0, 4);
        Check.ran("int main(){while(1)return 1;}", ENDED, 1, 2);
        Check.ran("int main(){if(1)1;if(0)1;else 2;}", ENDED, 0, 1);
        Check.ran("int main(){int i=0;while(i<3){i=i+1;int j=0;while(j<2)j=j+1;}}", ENDED, 0, 1 + 4 + 9);
        // It is a tick ahead of the value.
        Check.ran("int a[1];int main(){while(a[1])1;}", TRAP, 0, 2);
        String text = "int f(){print(1);return 0;}int main(){int i=0;while(i<@)i=i+1;while(f())1;}";
        Check.put(Check.ran(text.replace("@", "396"), ENDED, 0, 400), 1);
        Check.put(Check.ran(text.replace("@", "397"), SPENT, 0, 400));
        Check.put(Check.ran(text.replace("@", "398"), SPENT, 0, 400));
    }

    private static void ticksOfCalls() {
        Check.sentence("Each call of a function");
        Check.ran("int f(){}int main(){f();}", ENDED, 0, 2);
        Check.ran("int f(int p){}int main(){f(f(f(1)));}", ENDED, 0, 4);
        // It is a tick behind the values that it takes along.
        Check.ran("int a[1];int f(int p){}int main(){f(a[1]);}", TRAP, 0, 1);
        Check.ran("int a[1];int g(){return 1;}int f(int p){}int main(){f(a[g()]);}", TRAP, 0, 2);
        String text = "int f(int p){print(p);return p+1;}int main(){int i=0;while(i<@)i=i+1;return f(f(1));}";
        Check.put(Check.ran(text.replace("@", "396"), ENDED, 3, 400), 1, 2);
        Check.put(Check.ran(text.replace("@", "397"), SPENT, 0, 400), 1);
        Check.put(Check.ran(text.replace("@", "398"), SPENT, 0, 400));
    }

    private static void twelveCalls() {
        Check.sentence("and so does a call when 12 are not over (which is no tick)");
        String text = "int f(int n){print(n);if(n)return f(n-1)+1;return 0;}int main(){return f(read());}";
        Check.ran(text, new int[] {9}, ENDED, 9, 11);
        Check.put(Check.ran(text, new int[] {10}, ENDED, 10, 12), 10, 9, 8, 7, 6, 5, 4, 3, 2, 1, 0);
        Check.put(Check.ran(text, new int[] {11}, SPENT, 0, 12), 11, 10, 9, 8, 7, 6, 5, 4, 3, 2, 1);
        Check.ran(text, new int[] {12}, SPENT, 0, 12);
        Check.ran("int main(){main();}", SPENT, 0, 12);
        Check.ran("int main(){print(read());main();}", SPENT, 0, 12);
        // Calls that are over do not count, and values are worked out ahead of the call.
        String last = "int g(){return 0;}int f(int n){if(n)return f(n-1);return g();}int main(){return f(read());}";
        Check.ran(last, new int[] {9}, ENDED, 0, 12);
        Check.ran(last, new int[] {10}, SPENT, 0, 12);
        Check.ran("int f(int n){if(n)return f(n-1);return 1;}int main(){int i=0;while(i<20){i=i+f(10);}return i;}",
                ENDED, 20, 1 + 21 + 220);
        Check.ran("int f(int n){if(n)return f(n-1);return 1;}int main(){return f(f(f(f(10)+9)+9)+9);}", ENDED, 1, 45);
        Check.ran("int a[1];int f(int n){if(n)return f(n-1);return f(a[1]);}int main(){return f(10);}", TRAP, 0, 12);
        Check.ran("int a[1];int f(int n){if(n)return f(n-1);return f(a[0]);}int main(){return f(10);}", SPENT, 0, 12);
        // The 401st tick and the thirteenth call at once.
        Check.ran("int f(int n){if(n)return f(n-1);return 0;}int main(){int i=0;while(i<387)i=i+1;f(11);}",
                SPENT, 0, 400);
    }

    private static void endsAtOnce() {
        Check.sentence("A TRAP and SPENT end the run at once; what was put out stays");
        String[] traps = {"a[1];", "a[0-1]=2;", "1+a[1];", "f(a[1]);", "while(a[1])1;", "if(a[1])1;", "{{a[1];}}",
            "print(a[1]);", "return a[1];", "int v=a[1];", "a[a[1]]=f(1);", "g();", "f(g());"};
        for (String trap : traps) {
            String text = "int a[1];int g(){print(3);return a[1];}int f(int p){return p;}"
                    + "int main(){print(1);print(2);" + trap + "print(9);return 8;}";
            TinyForge x = Check.forged(text);
            Check.due("run() with " + trap, x.run(), TRAP);
            Check.due("result()", x.result(), 0);
            if (trap.contains("g()")) {
                Check.put(x, 1, 2, 3);
            } else {
                Check.put(x, 1, 2);
            }
        }
        for (String spent : new String[] {"while(1)1;", "while(1){}", "f(1);", "1+f(1);", "if(f(1))1;", "print(f(1));",
            "return f(1);", "int v=f(1);", "a[0]=f(1);", "a[f(1)]=1;", "f(f(1));"}) {
            TinyForge x = Check.forged("int a[1];int f(int p){return f(p)+1;}int main(){print(1);print(2);" + spent
                    + "print(9);return 8;}");
            Check.due("run() with " + spent, x.run(), SPENT);
            Check.due("result()", x.result(), 0);
            Check.put(x, 1, 2);
        }
    }
}
