/** Promises 4 to 6 where the names of a right text do not fit (reason 4). */
public final class NameTest {
    public static void main(String[] args) {
        variables();
        scopes();
        hiding();
        numberOfVariables();
        arrays();
        functions();
        parameters();
        calls();
        usedAhead();
        theFirstPlaceCounts();
        theMain();
        Check.end();
    }

    private static void wrong(String marked) {
        Check.refusedAtMark(marked, 4);
    }

    private static void inMain(String marked) {
        wrong("int a[3];int f(int p){}int main(){" + marked + "}");
    }

    private static void variables() {
        inMain("#x=1;");
        inMain("#x;");
        inMain("return 1+#x;");
        inMain("int x=#x;");
        inMain("#x=1;int x=2;");
        inMain("int x=1;int #x=2;");
        inMain("int x=1;int y=2;int #x=3;");
        inMain("#a=1;");
        inMain("#f=1;");
        inMain("return #a;");
        inMain("return #f;");
        inMain("#p=1;");
        inMain("f(#q);");
        inMain("a[#q]=1;");
        inMain("a[0]=#q;");
        inMain("if(#q){}");
        inMain("while(#q){}");
        inMain("print(#q);");
    }

    private static void scopes() {
        inMain("{int x=1;}#x=2;");
        inMain("{int x=1;}{return #x;}");
        inMain("if(1){int x=1;}else{#x=2;}");
        inMain("if(1)#int x=1;");
        inMain("if(1)1;else #int x=1;");
        inMain("while(1)#int x=1;");
        inMain("while(1)if(1)#int x=1;");
        inMain("if(1)#int x=y;");
        inMain("if(1){int x=1;int #x=2;}");
        inMain("{int x=1;{int x=2;}int #x=3;}");
        Check.accepted("int main(){{int x=1;}{int x=2;}int x=3;if(1){int x=4;}else{int x=5;}}");
        Check.accepted("int f(){int x=1;}int main(){int x=2;}", 2);
        wrong("int f(){int x=1;}int main(){#x=2;}");
        Check.ran("int main(){int x=1;{int x=x+1;{int x=x+1;print(x);}print(x);}return x;}", 0, 1, 1);
        Check.ran("int main(){int x=1;{x=2;int x=3;x=4;}return x;}", 0, 2, 1);
        Check.ran("int main(){int x=5;while(x){int y=x;x=x-y;}return x;}", 0, 0, 3);
    }

    private static void hiding() {
        inMain("int a=1;return #a[0];");
        inMain("int a=1;#a[0]=1;");
        inMain("int f=1;return #f(1);");
        inMain("int main=1;#main();");
        inMain("{int f=1;}f(1);{int f=1;#f(1);}");
        Check.accepted("int a[2];int f(){}int main(){int b=a[0]+f();int a=f();int f=a;return f+a;}", 2);
        Check.accepted("int a[2];int main(){{int a=1;}a[0]=1;int x=1;{int a=a[x];}}");
        Check.accepted("int f(int f){return f;}int main(){int main=1;return f(main);}", 2);
        wrong("int f(int f){return #f(f);}int main(){}");
        wrong("int a[1];int f(int a){return #a[0];}int main(){}");
    }

    private static String variablesFrom(int first, int last) {
        StringBuilder made = new StringBuilder();
        for (int k = first; k <= last; k++) {
            made.append("int v").append(k).append("=1;");
        }
        return made.toString();
    }

    private static void numberOfVariables() {
        Check.accepted("int main(){" + variablesFrom(1, 12) + "}");
        wrong("int main(){" + variablesFrom(1, 12) + "int #z=1;}");
        Check.accepted("int f(int a,int b){" + variablesFrom(1, 10) + "}int main(){}", 2);
        wrong("int f(int a,int b){" + variablesFrom(1, 10) + "int #z=1;}int main(){}");
        wrong("int main(){" + variablesFrom(1, 6) + "{" + variablesFrom(1, 6) + "int #z=1;}}");
        Check.accepted("int main(){" + variablesFrom(1, 6) + "{" + variablesFrom(1, 6) + "}{"
                + variablesFrom(1, 6) + "}}");
        wrong("int main(){" + variablesFrom(1, 12) + "{int #v1=1;}}");
        wrong("int main(){" + variablesFrom(1, 12) + "int #z=q;}");
    }

    private static void arrays() {
        Check.accepted("int a[1];int b[16];int c[016];int d[2];int main(){}");
        wrong("int a[#0];int main(){}");
        wrong("int a[#17];int main(){}");
        wrong("int a[#2147483647];int main(){}");
        wrong("int a[1];int #a[1];int main(){}");
        wrong("int a[1];int #a[17];int main(){}");
        wrong("int a[1];int b[1];int c[1];int d[1];int #e[1];int main(){}");
        wrong("int a[1];int b[1];int c[1];int d[1];int #e[99];int main(){}");
        wrong("int f(){}int #f[1];int main(){}");
        wrong("int a[1];int main(){return #b[0];}");
        wrong("int a[1];int main(){#b[0]=1;}");
        wrong("int main(){return #main[0];}");
    }

    private static String functionsFrom(int first, int last) {
        StringBuilder made = new StringBuilder();
        for (int k = first; k <= last; k++) {
            made.append("int f").append(k).append("(){}");
        }
        return made.toString();
    }

    private static void functions() {
        Check.accepted(functionsFrom(1, 7) + "int main(){}", 8);
        Check.accepted("int a[1];int b[1];int c[1];int d[1];" + functionsFrom(1, 6)
                + "int main(){return g()+d[0];}int g(){}", 8);
        wrong(functionsFrom(1, 8) + "int #main(){}");
        wrong("int main(){}" + functionsFrom(1, 7) + "int #g(){}int h(){}");
        wrong("int f(){}int #f(){}int main(){}");
        wrong("int f(){}int #f(int a){}int main(){}");
        wrong("int f[1];int #f(){}int main(){}");
        wrong("int main(){}int #main(){}");
        wrong("int main(){#g();}");
    }

    private static void parameters() {
        Check.accepted("int f(int a,int b,int c,int d){}int main(){}", 2);
        wrong("int f(int a,int b,int c,int d,int #e){}int main(){}");
        wrong("int f(int a,int b,int c,int d,int #a,int g){}int main(){}");
        wrong("int f(int a,int #a){}int main(){}");
        wrong("int f(int a,int b,int #a){}int main(){}");
        wrong("int f(int a){int #a=1;}int main(){}");
        Check.accepted("int f(int a){{int a=1;}}int main(){}", 2);
    }

    private static void calls() {
        inMain("#f();");
        inMain("#f(1,2);");
        inMain("f(#f());");
        inMain("#f(q,1);");
        inMain("f(#q);");
        inMain("#a(1);");
        inMain("#main(1);");
        inMain("#f(1,2,3,4,5,6,7,8,9);");
        inMain("int x=1;#x();");
        Check.accepted("int f(int a,int b,int c,int d){}int main(){f(1,2,3,f(4,5,6,7));main();}", 2);
    }

    /** What is made further on counts, but not what is made a second time or one too many. */
    private static void usedAhead() {
        Check.accepted("int main(){a[0]=f(1);}int a[1];int f(int p){}", 2);
        wrong("int main(){return #f(1);}int f(){}int f(int p){}");
        wrong("int main(){return f();}int f(){}int #f(int p){}");
        wrong("int main(){return #f[0];}int f(){}int f[1];");
        wrong("int main(){return #g();}" + functionsFrom(1, 7) + "int g(){}");
        wrong("int main(){return #e[0];}int a[1];int b[1];int c[1];int d[1];int e[1];");
        wrong("int main(){return e[0];}int a[1];int #a[1];int b[1];int c[1];int e[1];");
        wrong("int main(){return a[0];}int a[#17];");
        wrong("int main(){return #e[0];}int a[17];int b[1];int c[1];int d[1];int e[1];");
        wrong("int main(){f(1,2,3,4,5);}int f(int a,int b,int c,int d,int #e){}");
        wrong("int main(){#f(1,2,3,4);}int f(int a,int b,int c,int d,int e){}");
        wrong("int main(){f1();f7();}" + functionsFrom(1, 3) + "int #f1(){}" + functionsFrom(4, 7));
    }

    private static void theFirstPlaceCounts() {
        wrong("int main(){#x=1;y=2;}");
        wrong("int main(){#f();}int f(int a,int a){}");
        wrong("int a[#0];int a[0];int main(int x){}");
        wrong("int f(){#x=1;}int f(){}");
        wrong("int main(){int x=1;#g(y);int x=2;}");
        wrong("int a[1];int main(){#b[c]=d;}");
        wrong("int a[1];int main(){a[#c]=d;}");
    }

    private static void theMain() {
        wrong("int f(){}#");
        wrong("int f(){} \n#");
        wrong("int main(int a){}#");
        wrong("int main[3];#");
        wrong("int Main(){}#");
        wrong("int a[2];#");
        wrong("int main(int a){}int #main(){}");
        wrong("int f(){#x=1;}");
        Check.accepted("int f(int a){}int main(){}int g(){}", 3);
    }
}
