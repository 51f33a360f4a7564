/** Promises 9 (run), 10 (result), 11 (output) and 12 (ticks). */
public final class RunTest {
    private static final int ENDED = 0;
    private static final int TRAP = 1;
    private static final int SPENT = 2;

    public static void main(String[] args) {
        arithmetic();
        divisions();
        truths();
        strengths();
        shortcuts();
        fromTheLeft();
        choices();
        loops();
        functions();
        elements();
        traps();
        prints();
        ticksOfLoops();
        ticksOfCalls();
        openCalls();
        deepValues();
        answersOfRuns();
        Check.end();
    }

    private static void arithmetic() {
        Check.value("2147483647+1", Integer.MIN_VALUE);
        Check.value("0-2147483647-2", Integer.MAX_VALUE);
        Check.value("65536*65536", 0);
        Check.value("46341*46341", -2147479015);
        Check.value("-read()", Integer.MIN_VALUE, Integer.MIN_VALUE);
        Check.value("~0", -1);
        Check.value("~read()", 4, -5);
        Check.value("- - -3", -3);
        Check.value("7-2-1", 4);
        Check.value("2-(3-4)", 3);
    }

    private static void divisions() {
        Check.value("7/2", 3);
        Check.value("-7/2", -3);
        Check.value("7/-2", -3);
        Check.value("-7/-2", 3);
        Check.value("7%2", 1);
        Check.value("-7%2", -1);
        Check.value("7%-2", 1);
        Check.value("-7%-2", -1);
        Check.value("5/0", -1);
        Check.value("-5/0", -1);
        Check.value("0/0", -1);
        Check.value("5%0", 5);
        Check.value("-5%0", -5);
        Check.value("0%0", 0);
        Check.value("read()/-1", Integer.MIN_VALUE, Integer.MIN_VALUE);
        Check.value("read()%-1", 0, Integer.MIN_VALUE);
        Check.value("100/10/5", 2);
        Check.value("100/(10/5)", 50);
        Check.value("17%10%4", 3);
    }

    private static void truths() {
        int[][] pairs = {{1, 2}, {2, 1}, {3, 3}, {-1, 1}, {Integer.MIN_VALUE, Integer.MAX_VALUE},
                {0, Integer.MIN_VALUE}};
        for (int[] pair : pairs) {
            int a = pair[0];
            int b = pair[1];
            Check.value("read()<read()", a < b ? 1 : 0, a, b);
            Check.value("read()>read()", a > b ? 1 : 0, a, b);
            Check.value("read()<=read()", a <= b ? 1 : 0, a, b);
            Check.value("read()>=read()", a >= b ? 1 : 0, a, b);
            Check.value("read()==read()", a == b ? 1 : 0, a, b);
            Check.value("read()!=read()", a != b ? 1 : 0, a, b);
        }
        Check.value("!0", 1);
        Check.value("!5", 0);
        Check.value("!-1", 0);
        Check.value("!!-1", 1);
        Check.value("5&&7", 1);
        Check.value("-5&&-7", 1);
        Check.value("5&&0", 0);
        Check.value("0&&5", 0);
        Check.value("5||0", 1);
        Check.value("0||5", 1);
        Check.value("0||0", 0);
        Check.value("0||-1", 1);
        Check.value("2&&2==2", 1);
    }

    private static void strengths() {
        Check.value("1+2*3", 7);
        Check.value("(1+2)*3", 9);
        Check.value("7-6/3%2", 7);
        Check.value("-2*3", -6);
        Check.value("-2+3", 1);
        Check.value("!0+1", 2);
        Check.value("~1*2", -4);
        Check.value("1+1<3", 1);
        Check.value("3<2+2", 1);
        Check.value("1<2==1", 1);
        Check.value("3>2>1", 0);
        Check.value("2==2==2", 0);
        Check.value("5!=5==0", 1);
        Check.value("1||0&&0", 1);
        Check.value("(1||0)&&0", 0);
        Check.value("0&&0||1", 1);
        Check.value("0&&(0||1)", 0);
        Check.value("2==2&&3==3", 1);
        Check.value("1||1==0", 1);
        Check.value("0==1||1", 1);
        Check.value("4*2==16/2", 1);
        Check.value("1<2+3*4-5%6", 1);
    }

    private static void shortcuts() {
        Check.value("(0&&read())*10+read()", 4, 4, 5);
        Check.value("(1&&read())*10+read()", 15, 4, 5);
        Check.value("(1||read())*10+read()", 14, 4, 5);
        Check.value("(0||read())*10+read()", 15, 4, 5);
        Check.value("(0&&read()&&read())*10+read()", 4, 4, 5);
        Check.value("(0&&read()||read())*10+read()", 15, 4, 5);
        Check.value("(1||read()&&read())*10+read()", 14, 4, 5);
        Check.value("(7||read()||read())*10+read()", 14, 4, 5);
        Check.ran("int a[1];int main(){0&&a[5];1||a[5];return 3;}", ENDED, 3, 1);
        Check.ran("int main(){0&&main();1||main();if(0&&main()||0)return 1;return 2;}", ENDED, 2, 1);
    }

    private static void fromTheLeft() {
        Check.value("read()-read()*read()", 4, 10, 2, 3);
        Check.value("read()-(read()-read())", 11, 10, 2, 3);
        Check.value("(read()<read())*100+read()", 103, 1, 2, 3);
        Check.ran("int f(int a,int b,int c){return a*100+b*10+c;}int main(){return f(read(),read(),read());}",
                new int[] {1, 2, 3}, ENDED, 123, 2);
        Check.put(Check.ran("int a[9];int f(int n){print(n);return n;}"
                + "int main(){a[f(1)]=f(2)+f(3)*f(4);a[f(5)]+a[f(6)];return a[1];}", ENDED, 14, 7),
                1, 2, 3, 4, 5, 6);
        Check.ran("int a[9];int main(){a[read()]=read();return a[3]*10+a[5];}", new int[] {3, 5}, ENDED, 50, 1);
        Check.ran("int a[3];int f(){a[0]=2;return 9;}int main(){a[a[0]]=f();return a[0]*100+a[2];}",
                ENDED, 900, 2);
    }

    private static void choices() {
        String text = "int main(){int x=read();if(x)if(x-1)return 1;else return 2;return 3;}";
        Check.ran(text, new int[] {0}, ENDED, 3, 1);
        Check.ran(text, new int[] {1}, ENDED, 2, 1);
        Check.ran(text, new int[] {2}, ENDED, 1, 1);
        Check.ran("int main(){if(-1)return 5;return 6;}", ENDED, 5, 1);
        Check.ran("int main(){if(0){return 5;}else{return 6;}return 7;}", ENDED, 6, 1);
        Check.ran("int main(){if(0)return 1;else if(0)return 2;else if(1)return 3;else return 4;}", ENDED, 3, 1);
        Check.ran("int main(){if(0){if(1)return 1;}else return 2;return 3;}", ENDED, 2, 1);
        Check.ran("int main(){int x=0;if(1)x=x+1;else x=x+10;if(0)x=x+100;x=x+1000;return x;}", ENDED, 1001, 1);
    }

    private static void loops() {
        Check.ran("int main(){int i=0;int s=0;while(i<10){i=i+1;s=s+i;}return s;}", ENDED, 55, 12);
        Check.ran("int main(){while(0)return 1;return 2;}", ENDED, 2, 2);
        Check.ran("int main(){while(1)return 1;return 2;}", ENDED, 1, 2);
        Check.ran("int main(){int i=0;while(1){int j=0;while(j<3){j=j+1;if(i==2)return i*10+j;}i=i+1;}}",
                ENDED, 21, 13);
        // Values that nothing is done with must not pile up.
        Check.ran("int a[1];int f(int n){return n;}int main(){int i=0;while(i<100){i;1+i;a[0];a[0]+i;-i;"
                + "f(i);i=i+1;}a[0]=f(i)-f(1);return a[0];}", ENDED, 99, 204);
        Check.ran("int a[1];int f(int n){return n;}int main(){int i=0;while(i<390){a[0];a[0]+i;i=i+1;}"
                + "return f(i)-f(1);}", ENDED, 389, 394);
        Check.ran("int main(){int n=0;while(read()){int k=n+1;n=k;}return n;}", new int[] {1, -1, 5}, ENDED, 3, 5);
    }

    private static void functions() {
        Check.ran("int main(){}", ENDED, 0, 1);
        Check.ran("int f(){1;}int main(){return f()+5;}", ENDED, 5, 2);
        Check.ran("int main(){" + "int a=1;{".repeat(11) + "int b=2;b=3;" + "}".repeat(12), ENDED, 0, 1);
        Check.ran("int f(int a){{a=a+1;}}int main(){int x=3;f(x);return f(x)+x;}", ENDED, 3, 3);
        Check.ran("int f(int a){a=a+1;return a;}int main(){int a=1;int b=f(a);return a*10+b;}", ENDED, 12, 2);
        Check.ran("int f(){return 3;return 4;}int main(){f();return f();}", ENDED, 3, 3);
        Check.ran("int f(int n){if(n<2)return n;return f(n-1)+f(n-2);}int main(){return f(8);}", ENDED, 21, 68);
        Check.ran("int e(int n){if(n)return o(n-1);return 1;}int o(int n){if(n)return e(n-1);return 0;}"
                + "int main(){return e(7)*10+e(8);}", ENDED, 1, 18);
        Check.ran("int g[1];int main(){g[0]=g[0]+1;if(g[0]<4)return main()*10+g[0];return 1;}", ENDED, 1444, 4);
        Check.ran("int f(int a,int b,int c,int d){int e=a-b;int g=c-d;return e*10+g;}"
                + "int main(){int x=7;int y=f(9,1,f(8,2,7,3),4);return x*1000+y;}", ENDED, 7000 + 80 + 60, 3);
    }

    private static void elements() {
        Check.ran("int a[16];int b[1];int main(){int i=0;while(i<16){a[i]=i*i;i=i+1;}return a[15]+b[0];}",
                ENDED, 225, 18);
        Check.ran("int a[2];int b[2];int c[2];int d[2];int main(){a[1]=1;b[0]=2;c[1]=3;d[0]=4;"
                + "return a[0]+a[1]*10+b[0]*100+b[1]+c[0]+c[1]*1000+d[0]*10000+d[1];}", ENDED, 43210, 1);
        TinyForge x = Check.ran("int a[1];int main(){a[0]=a[0]+1;return a[0];}", ENDED, 1, 1);
        Check.due("run() again", x.run(), ENDED);
        Check.due("arrays are 0 in each run", x.result(), 1);
    }

    private static void traps() {
        for (String index : new String[] {"-1", "3", "4", "16", "2147483647", "-2147483647-1"}) {
            Check.put(Check.ran("int b[1];int a[3];int c[9];int main(){print(1);a[" + index
                    + "];print(2);return 1;}", TRAP, 0, 1), 1);
            Check.put(Check.ran("int b[1];int a[3];int c[9];int f(){print(7);return 2;}int main(){a[" + index
                    + "]=f();print(2);return 1;}", TRAP, 0, 2), 7);
        }
        Check.ran("int a[3];int main(){a[2]=1;a[0]=1;return a[2];}", ENDED, 1, 1);
        Check.ran("int a[1];int main(){while(a[1]){}return 1;}", TRAP, 0, 2);
        Check.ran("int a[1];int f(int n){return n;}int main(){return f(a[1]);}", TRAP, 0, 1);
        Check.ran("int a[1];int f(int n){if(n)return f(n-1);return a[n+1];}int main(){return f(5);}", TRAP, 0, 7);
        // An index that is not there traps only when the value has been worked out.
        Check.ran("int a[1];int f(int n){return f(n);}int main(){a[9]=f(1);}", SPENT, 0, 12);
    }

    private static void prints() {
        TinyForge x = Check.ran("int main(){print(read());print(-1);print(0);}",
                new int[] {Integer.MIN_VALUE}, ENDED, 0, 1);
        Check.put(x, Integer.MIN_VALUE, -1, 0);
        for (int k : new int[] {3, 4, 29, 30, 31, -2, Integer.MIN_VALUE, Integer.MAX_VALUE}) {
            Check.due("output(" + k + ")", x.output(k), 0);
        }
        x = Check.ran("int main(){int i=0;while(i<30){print(i);i=i+1;}return 1;}", ENDED, 1, 32);
        Check.due("output(-1)", x.output(-1), 30);
        Check.due("output(29)", x.output(29), 29);
        x = Check.ran("int main(){int i=0;while(i<31){print(i);i=i+1;}return 1;}", TRAP, 0, 32);
        Check.due("output(-1)", x.output(-1), 30);
        Check.due("output(29)", x.output(29), 29);
        Check.due("output(30)", x.output(30), 0);
        // The value of the 31st is worked out.
        Check.ran("int f(){return 1;}int main(){int i=0;while(i<30){print(i);i=i+1;}print(f());}", TRAP, 0, 33);
    }

    private static void ticksOfLoops() {
        Check.ran("int main(){int i=0;while(i<398)i=i+1;return i;}", ENDED, 398, 400);
        Check.ran("int main(){int i=0;while(i<399)i=i+1;return i;}", SPENT, 0, 400);
        Check.ran("int main(){while(1){}}", SPENT, 0, 400);
        // A tick stands ahead of what it lets happen: the loop's value, the function's statements.
        Check.put(Check.ran("int f(){print(1);return 0;}int main(){int i=0;while(i<397)i=i+1;while(f()){}}",
                SPENT, 0, 400));
        Check.put(Check.ran("int f(){print(1);return 0;}int main(){int i=0;while(i<396)i=i+1;while(f()){}}",
                ENDED, 0, 400), 1);
        Check.ran("int a[1];int main(){int i=0;while(i<398)i=i+1;while(a[1]){}}", SPENT, 0, 400);
    }

    private static void ticksOfCalls() {
        Check.put(Check.ran("int f(int n){print(n);return n;}int main(){int i=0;while(i<396)i=i+1;"
                + "f(f(f(4)));return 1;}", SPENT, 0, 400), 4, 4);
        Check.put(Check.ran("int f(int n){print(n);return n;}int main(){int i=0;while(i<396)i=i+1;"
                + "f(f(4));return 1;}", ENDED, 1, 400), 4, 4);
        Check.ran("int f(int n){if(n)f(n-1);return 0;}int main(){while(1)f(9);}", SPENT, 0, 400);
    }

    private static void openCalls() {
        String text = "int f(int n){print(n);if(n)return f(n-1)+1;return 0;}int main(){return f(read());}";
        Check.put(Check.ran(text, new int[] {10}, ENDED, 10, 12), 10, 9, 8, 7, 6, 5, 4, 3, 2, 1, 0);
        Check.put(Check.ran(text, new int[] {11}, SPENT, 0, 12), 11, 10, 9, 8, 7, 6, 5, 4, 3, 2, 1);
        Check.ran("int main(){return main();}", SPENT, 0, 12);
        // The values given are worked out ahead of the call that is refused.
        Check.put(Check.ran("int a[1];int g(){print(5);return 1;}int f(int n){a[0]=a[0]+1;"
                + "if(a[0]==11)return f(a[3]);return f(1);}int main(){return f(0);}", TRAP, 0, 12));
        Check.ran("int f(int n){if(n)return f(n-1);return 0;}int main(){int i=0;while(i<9){f(10);i=i+1;}return i;}",
                ENDED, 9, 110);
    }

    /** As many values wait at once as may: three in each of eleven calls, in each of twelve calls. */
    private static void deepValues() {
        String made = "int n[1];int f(int a,int b,int c,int d){return a+b+c+d;}";
        String deep = "f(1,2,3,".repeat(10) + "main()" + ")".repeat(10);
        Check.ran(made + "int main(){n[0]=n[0]+1;if(n[0]>10)return 7;return " + deep + ";}", ENDED, 607, 111);
        Check.ran(made + "int main(){n[0]=n[0]+1;if(n[0]>10)return 7;" + "int x=5;int y=6;int z=7;"
                + "int u=" + deep + ";return u+x+y+z;}", ENDED, 607 + 180, 111);
    }

    private static void answersOfRuns() {
        TinyForge x = Check.forged("int main(){int n=read();print(n);if(n>5)while(1){}print(n+1);return n*2;}");
        Check.due("result() ahead of run()", x.result(), 0);
        Check.due("ticks() ahead of run()", x.ticks(), 0);
        Check.put(x);
        x.give(3);
        Check.due("run()", x.run(), ENDED);
        Check.due("result()", x.result(), 6);
        Check.due("ticks()", x.ticks(), 1);
        Check.put(x, 3, 4);
        x.empty();
        x.give(6);
        Check.due("result() of the latest run stays", x.result(), 6);
        Check.due("run()", x.run(), SPENT);
        Check.due("result()", x.result(), 0);
        Check.due("ticks()", x.ticks(), 400);
        Check.put(x, 6);
        x.empty();
        Check.due("run()", x.run(), ENDED);
        Check.due("result()", x.result(), 0);
        Check.put(x, 0, 1);
    }
}
