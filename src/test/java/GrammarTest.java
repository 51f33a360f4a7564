/** Promises 4 to 6 where a text does not fit the grammar (3) or too much is open (2). */
public final class GrammarTest {
    public static void main(String[] args) {
        parts();
        statements();
        values();
        ends();
        openBrackets();
        openBlocks();
        openStatements();
        openSigns();
        notOpen();
        whateverComesFirst();
        Check.end();
    }

    /** A # marks the token with which no right text could go on. */
    private static void unfit(String marked) {
        Check.refusedAtMark(marked, 3);
    }

    private static void inMain(String marked) {
        unfit("int main(){" + marked + "}");
    }

    private static void parts() {
        Check.accepted("int a[4];int main(){}int b[2];int f(int a,int b){}", 2);
        unfit("#main(){}");
        unfit("int #(){}");
        unfit("int main#;");
        unfit("int main#=1;");
        unfit("int main#{}");
        unfit("int a[#a];int main(){}");
        unfit("int a[#-1];int main(){}");
        unfit("int a[#];int main(){}");
        unfit("int a[1#;int main(){}");
        unfit("int a[1]#=1;int main(){}");
        unfit("int a[1]#int main(){}");
        unfit("int main(){}#;");
        unfit("int main(){}#}");
        unfit("int main()#;");
        unfit("int main()#return 1;");
        unfit("int f(#a){}");
        unfit("int f(int #){}");
        unfit("int f(int a #int b){}");
        unfit("int f(int a,#){}");
        unfit("int f(int a,#b){}");
        unfit("int f(#,int a){}");
        unfit("int f(int a#[1]){}");
        unfit("int f(int #int){}");
    }

    private static void statements() {
        inMain("#;");
        inMain("1#}");
        inMain("int x#;");
        inMain("int #1=1;");
        inMain("int x=#;");
        inMain("int x#[1]=2;");
        inMain("x#);");
        inMain("x=1#=2;");
        inMain("x=y#=2;");
        inMain("(x)#=2;");
        inMain("x+y#=2;");
        inMain("a[1]+b[2]#=2;");
        inMain("f(1)#=2;");
        inMain("1#=2;");
        inMain("-x#=2;");
        inMain("a[1]#[2];");
        inMain("a[1]#(2);");
        inMain("a[#]=2;");
        inMain("a[1]=#;");
        inMain("a[1]=b[1]#=2;");
        inMain("if#{}");
        inMain("if(#){}");
        inMain("if(1#;){}");
        inMain("if(1)#else{}");
        inMain("if(1){}else #)");
        inMain("if(1){}else{}#else{}");
        inMain("#else{}");
        inMain("while #1){}");
        inMain("while(1)#;");
        inMain("return#;");
        inMain("return 1 #return 2;");
        inMain("print #1;");
        inMain("print(#);");
        inMain("print(1#,2);");
        inMain("print(1)#+1;");
        inMain("x=#print(1);");
        inMain("read#=1;");
        inMain("read(#1);");
        inMain("read#;");
        inMain("{1;#)}");
        inMain("while(1)if(1)x=1;else y=2;#else z=3;");
        Check.accepted("int a[2];int main(){a[0]=1;a[0]==1;a[0]+a[1]*2;a[0];a[a[0]];-a[0];}");
        Check.accepted("int main(){{}{{}}if(1){}else if(2){}else{}while(0){}1;main();read();}");
    }

    private static void values() {
        inMain("x=1+#;");
        inMain("x=#*1;");
        inMain("x=1+#*1;");
        inMain("x=(#);");
        inMain("x=(1#;");
        inMain("x=1#);");
        inMain("x=1#];");
        inMain("x=f(#,1);");
        inMain("x=f(1,#);");
        inMain("x=f(1#;");
        inMain("x=f(1 #1);");
        inMain("x=y #z;");
        inMain("x=1#!2;");
        inMain("x=1#~2;");
        inMain("x=1<#>2;");
        inMain("x=1&&#||2;");
        inMain("x=#int;");
        inMain("x=#[1];");
        inMain("x=1#(2);");
        inMain("x=(y)#(2);");
        Check.accepted("int main(){int x=1;x= -!~-x+ -1;}");
        inMain("x=#+1;");
    }

    private static void ends() {
        unfit("#");
        unfit("int #");
        unfit("int main#");
        unfit("int main(){#");
        unfit("int main(){return 1  #");
        unfit("int main(){return 1;\n\n#");
        unfit("int main(){if(1)#");
        unfit("int main(){if(1){}else#");
        unfit("int a[1];int#");
        unfit("int a[1]#");
        unfit("int main(){a[1#");
        unfit("int main(){x=-#");
        Check.accepted("int main(){}   ");
    }

    /** main's own block is the first of the twelve. */
    private static void openBrackets() {
        Check.accepted("int main(){" + "(".repeat(11) + "1" + ")".repeat(11) + ";}");
        Check.refusedAtMark("int main(){" + "(".repeat(11) + "#(1" + ")".repeat(12) + ";}", 2);
        Check.accepted("int a[1];int main(){" + "a[".repeat(11) + "0" + "]".repeat(11) + ";}");
        Check.refusedAtMark("int a[1];int main(){" + "a[".repeat(11) + "a#[0]" + "]".repeat(11) + ";}", 2);
        Check.refusedAtMark("int a[1];int main(){" + "a[".repeat(11) + "a#[0]" + "]".repeat(11) + "=1;}", 2);
        Check.accepted("int main(){" + "(".repeat(10) + "main()" + ")".repeat(10) + ";}");
        Check.refusedAtMark("int main(){" + "(".repeat(11) + "main#()" + ")".repeat(11) + ";}", 2);
        Check.refusedAtMark("int main(){" + "(".repeat(11) + "read#()" + ")".repeat(11) + ";}", 2);
        Check.accepted("int main(){print(" + "(".repeat(10) + "1" + ")".repeat(10) + ");}");
        Check.refusedAtMark("int main(){print(" + "(".repeat(10) + "#(1)" + ")".repeat(10) + ");}", 2);
        Check.accepted("int main(){if(" + "(".repeat(10) + "1" + ")".repeat(10) + "){}}");
        Check.refusedAtMark("int main(){if(" + "(".repeat(10) + "#(1)" + ")".repeat(10) + "){}}", 2);
        Check.accepted("int main(){return " + "(".repeat(11) + "1" + ")".repeat(11) + "+"
                + "(".repeat(10) + "1" + ")".repeat(10) + ";}");
    }

    private static void openBlocks() {
        Check.accepted("int main()" + "{".repeat(12) + "}".repeat(12));
        Check.refusedAtMark("int main()" + "{".repeat(12) + "#{" + "}".repeat(13), 2);
        Check.accepted("int main()" + "{".repeat(12) + "1;" + "}".repeat(12));
        Check.refusedAtMark("int main()" + "{".repeat(12) + "#-1;" + "}".repeat(12), 2);
        Check.refusedAtMark("int main()" + "{".repeat(12) + "print#(1);" + "}".repeat(12), 2);
        Check.refusedAtMark("int main()" + "{".repeat(12) + "if#(1)1;" + "}".repeat(12), 2);
        Check.refusedAtMark("int main()" + "{".repeat(12) + "while#(1)1;" + "}".repeat(12), 2);
        Check.accepted("int main()" + "{".repeat(12) + "int x=1;x=2;return x;" + "}".repeat(12));
        Check.accepted("int main(){" + "{}".repeat(60) + "}");
    }

    private static void openStatements() {
        Check.accepted("int main(){" + "if(1)".repeat(11) + "1;}");
        Check.refusedAtMark("int main(){" + "if(1)".repeat(11) + "if#(1)1;}", 2);
        Check.accepted("int main(){" + "while(1)".repeat(11) + "1;}");
        Check.refusedAtMark("int main(){" + "while(1)".repeat(11) + "while#(1)1;}", 2);
        Check.accepted("int main(){" + "if(1){".repeat(5) + "if(1)1;" + "}".repeat(6));
        Check.refusedAtMark("int main(){" + "if(1){".repeat(5) + "if(1)#{1;}" + "}".repeat(6), 2);
        Check.accepted("int main(){" + "if(1)1;else ".repeat(11) + "1;}");
        Check.refusedAtMark("int main(){" + "if(1)1;else ".repeat(11) + "if#(1)1;}", 2);
        Check.refusedAtMark("int main(){" + "if(1)1;else ".repeat(11) + "#-1;}", 2);
        Check.accepted("int main(){" + "if(1)".repeat(11) + "1;" + "else 2;".repeat(11) + "}");
        Check.refusedAtMark("int main(){" + "if(1)".repeat(11) + "1;else #!2;}", 2);
        Check.accepted("int main(){" + "if(1)1;".repeat(20) + "while(1)1;".repeat(5) + "}");
        Check.accepted("int main(){" + "if(1)1;else 2;".repeat(20) + "}");
    }

    private static void openSigns() {
        Check.accepted("int main(){" + "-".repeat(11) + "1;}");
        Check.refusedAtMark("int main(){" + "-".repeat(11) + "#-1;}", 2);
        Check.accepted("int main(){" + "!~-".repeat(3) + "!!1;}");
        Check.refusedAtMark("int main(){" + "!~-".repeat(3) + "!!#~1;}", 2);
        // Each level of signs waits for the next stronger one.
        Check.accepted("int main(){((((((1||1&&1==1<1+1))))));}");
        Check.refusedAtMark("int main(){((((((1||1&&1==1<1+1#*1))))));}", 2);
        Check.accepted("int main(){(((((1||1&&1==1<1+1*1)))));}");
        Check.refusedAtMark("int main(){(((((1||1&&1==1<1+1*#-1)))));}", 2);
        Check.refusedAtMark("int main(){(((((1||1&&1==1<1+1*#(1))))));}", 2);
        Check.accepted("int main(){" + "1+(".repeat(5) + "1+1" + ")".repeat(5) + ";}");
        Check.refusedAtMark("int main(){" + "1+(".repeat(5) + "1+1#*1" + ")".repeat(5) + ";}", 2);
    }

    /** A sign whose second part is whole, the = of a statement and a comma are not open. */
    private static void notOpen() {
        Check.accepted("int main(){return 1" + "+1".repeat(60) + ";}");
        Check.accepted("int main(){return 1" + "*1+1".repeat(30) + ";}");
        Check.accepted("int main(){return 1" + "&&1||1".repeat(30) + ";}");
        Check.accepted("int main(){return 1" + "<1".repeat(60) + ";}");
        Check.accepted("int main(){return 1" + "*-1".repeat(40) + ";}");
        Check.accepted("int main(){return -1" + "- -1".repeat(30) + ";}");
        Check.accepted("int main(){int x=0;" + "{".repeat(11) + "x=1;" + "}".repeat(11) + "}");
        Check.accepted("int a[1];int main(){" + "{".repeat(10) + "a[0]=-1;" + "}".repeat(10) + "}");
        Check.accepted("int f(int a,int b){return " + "(".repeat(10) + "f(1,2)" + ")".repeat(10)
                + ";}int main(){}", 2);
        Check.accepted("int f(int a)" + "{".repeat(12) + "}".repeat(12) + "int main(){}", 2);
    }

    private static void whateverComesFirst() {
        Check.refusedAtMark("int main(){#;" + "(".repeat(14), 3);
        Check.refusedAtMark("int main(){" + "(".repeat(11) + "#(;", 2);
        Check.refusedAtMark("int main(){" + "(".repeat(11) + "1#(", 3);
        Check.refusedAtMark("int main(){" + "(".repeat(11) + "#*", 3);
        Check.refusedAtMark("int main(){" + "(".repeat(11) + "1#+", 2);
        Check.refusedAtMark("int main()" + "{".repeat(12) + "if#{", 3);
        Check.refusedAtMark("int main()" + "{".repeat(12) + "1#{", 3);
        Check.refusedAtMark("int main(){y=1;" + "(".repeat(11) + "#(1" + ")".repeat(12) + ";}", 2);
    }
}
