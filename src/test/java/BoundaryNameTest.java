/** The boundaries that "Terms" names for names, and the order of the reasons, sentence by sentence. */
public final class BoundaryNameTest {
    public static void main(String[] args) {
        lengthsOfArrays();
        atMostFourArrays();
        atMostEightFunctions();
        atMostFourParameters();
        differentNames();
        fromBehindToTheEnd();
        hiding();
        notInTheSameBlock();
        statementsThatMakeNone();
        atMostTwelveVariables();
        usedAhead();
        wrongUses();
        wrongCalls();
        notThere();
        parametersBeyondFour();
        noMain();
        orderOfReasons();
        threeOrTwo();
        firstPlace();
        Check.end();
    }

    private static void wrong(String marked) {
        Check.refusedAtMark(marked, 4);
    }

    /** Parts made by a pattern in which @ stands for a number. */
    private static String many(String pattern, int first, int last) {
        StringBuilder parts = new StringBuilder();
        for (int k = first; k <= last; k++) {
            parts.append(pattern.replace("@", Integer.toString(k)));
        }
        return parts.toString();
    }

    private static void lengthsOfArrays() {
        Check.sentence("a length of 1 .. 16");
        for (int length : new int[] {1, 2, 15, 16}) {
            String text = "int a[" + length + "];int main(){a[read()]=7;return a[" + (length - 1) + "];}";
            Check.ran(text, new int[] {length - 1}, 0, 7, 1);
            Check.ran(text, new int[] {length}, 1, 0, 1);
        }
        Check.accepted("int a[0016];int b[01];int main(){}");
        for (String length : new String[] {"0", "00", "17", "18", "017", "32", "256", "257", "65537", "2147483647"}) {
            wrong("int a[#" + length + "];int main(){}");
            wrong("int main(){a[0]=1;}int a[#" + length + "];");
        }
    }

    private static void atMostFourArrays() {
        Check.sentence("at most 4 of them");
        Check.accepted(many("int a@[1];", 1, 3) + "int main(){}");
        Check.ran(many("int a@[16];", 1, 4) + "int main(){a4[15]=4;a1[0]=1;return a4[15]*10+a1[0]+a2[15]+a3[15];}",
                0, 41, 1);
        wrong(many("int a@[1];", 1, 4) + "int #a5[1];int main(){}");
        wrong(many("int a@[1];", 1, 4) + "int main(){}int #a5[1];int a6[1];");
        wrong(many("int a@[1];", 1, 4) + "int #a5[0];int main(){}");
        wrong(many("int a@[16];", 1, 4) + "int main(){return #a5[0];}int a5[1];");
    }

    private static void atMostEightFunctions() {
        Check.sentence("functions at most 8");
        Check.accepted("int main(){}", 1);
        Check.accepted(many("int f@(){}", 1, 6) + "int main(){}", 7);
        TinyForge x = Check.ran(many("int f@(){return @;}", 1, 7) + "int main(){return f7()*10+f1();}", 0, 71, 3);
        Check.due("forge() of eight functions", x.forge(), 8);
        Check.accepted(many("int a@[1];", 1, 4) + many("int f@(){}", 1, 7) + "int main(){}", 8);
        wrong(many("int f@(){}", 1, 7) + "int main(){}int #f8(){}");
        wrong(many("int f@(){}", 1, 8) + "int #main(){}");
        wrong(many("int f@(){}", 1, 7) + "int main(){}int #f8(){}int f9(){}");
        wrong(many("int f@(){}", 1, 7) + "int main(){#f8();}int f8(){}");
    }

    private static void atMostFourParameters() {
        Check.sentence("of at most 4 PARAMETERS");
        Check.accepted("int f(int a){}int main(){f(1);}", 2);
        Check.accepted("int f(int a,int b,int c){}int main(){f(1,2,3);}", 2);
        Check.ran("int f(int a,int b,int c,int d){return a*1000+b*100+c*10+d;}int main(){return f(1,2,3,4);}",
                0, 1234, 2);
        wrong("int f(int a,int b,int c,int d,int #e){}int main(){}");
        wrong("int f(int a,int b,int c,int d,int #e,int g){}int main(){}");
        wrong("int f(int a,int b,int c,int d,int #a){}int main(){}");
        wrong("int f(int a,int b,int c,int d,int #e){return x;}int main(){}");
    }

    private static void differentNames() {
        Check.sentence("all of different names");
        Check.accepted("int a[1];int b[1];int f(){}int g(){}int main(){}", 3);
        wrong("int a[1];int #a[1];int main(){}");
        wrong("int a[1];int #a(){}int main(){}");
        wrong("int f(){}int #f[1];int main(){}");
        wrong("int f(){}int #f(){}int main(){}");
        wrong("int f(){}int #f(int a){}int main(){}");
        wrong("int main(){}int #main(){}");
        wrong("int main(){}int #main[1];");
        wrong("int main(){}int a[1];int b[1];int f(){}int #a[1];");
        wrong("int a[1];int main(){}int f(){}int g(){}int #a(){}");
    }

    private static void fromBehindToTheEnd() {
        Check.sentence("those made by \"int\" in a block, from behind that statement to its end");
        wrong("int main(){#x=1;int x=1;}");
        wrong("int main(){int x=#x;}");
        wrong("int main(){int x=1+(#x);}");
        Check.accepted("int main(){int x=1;x=x;}");
        Check.accepted("int main(){int x=1;{{x=2;}}}");
        Check.accepted("int main(){{int x=1;{x=1;}x=1;}}");
        wrong("int main(){{int x=1;}#x=1;}");
        wrong("int main(){{int x=1;}{#x=1;}}");
        wrong("int main(){if(1){int x=1;}else{#x=1;}}");
        wrong("int main(){while(0){int x=1;}return #x;}");
        wrong("int f(){int x=1;}int main(){#x=1;}");
        wrong("int f(int p){}int main(){#p=1;}");
        wrong("int main(){#p=1;}int f(int p){}");
    }

    private static void hiding() {
        Check.sentence("one may have the name of one in a block around, of an array or a function, and hides it");
        Check.put(Check.ran("int main(){int x=1;{int x=2;{int x=3;print(x);}print(x);x=5;}print(x);return x;}",
                0, 1, 1), 3, 2, 1);
        Check.ran("int main(){int x=1;{int x=x+1;return x;}}", 0, 2, 1);
        Check.ran("int f(int p){{int p=9;p=8;}return p;}int main(){return f(3);}", 0, 3, 2);
        Check.ran("int a[2];int main(){a[1]=4;{int a=a[1]+1;a=a+1;}return a[1];}", 0, 4, 1);
        Check.ran("int f(){return 6;}int main(){{int f=f()+1;f=9;}return f();}", 0, 6, 3);
        Check.ran("int f(int f){return f;}int main(){int main=f(2);return main;}", 0, 2, 2);
        wrong("int a[2];int main(){int a=1;#a[1]=1;}");
        wrong("int a[2];int main(){int a=1;return #a[1];}");
        wrong("int a[2];int main(){int a=1;{return #a[1];}}");
        wrong("int f(){}int main(){int f=1;#f();}");
        wrong("int f(int f){#f(1);}int main(){}");
        wrong("int main(){int main=1;#main();}");
    }

    private static void notInTheSameBlock() {
        Check.sentence("not of one in the same block (parameters are in the function's own block)");
        wrong("int main(){int x=1;int #x=2;}");
        wrong("int main(){int x=1;{}int #x=2;}");
        wrong("int main(){int x=1;{int x=2;}int #x=3;}");
        wrong("int main(){int x=1;{int y=1;int x=2;int #y=3;}}");
        wrong("int main(){int x=1;int #x=x;}");
        wrong("int f(int a){int #a=1;}int main(){}");
        wrong("int f(int a,int b){int c=1;int #b=1;}int main(){}");
        wrong("int f(int a,int #a){}int main(){}");
        wrong("int f(int a,int b,int c,int #a){}int main(){}");
        Check.accepted("int f(int a){{int a=1;{int a=2;}}}int main(){}", 2);
        Check.accepted("int f(int a){}int g(int a){int b=1;}int main(){int a=1;int b=1;}", 3);
        Check.accepted("int main(){{int x=1;}{int x=2;}int x=3;}");
    }

    private static void statementsThatMakeNone() {
        Check.sentence("A statement of \"if\" and \"while\" that is no block makes none");
        for (String head : new String[] {"if(1)", "while(1)", "if(1)1;else ", "if(1){}else ", "if(1)while(1)"}) {
            wrong("int main(){" + head + "#int x=1;}");
            wrong("int main(){" + head + "#int x=x;}");
            wrong("int main(){int x=1;" + head + "#int x=2;}");
            Check.accepted("int main(){" + head + "{int x=1;}}");
            Check.accepted("int main(){" + head + "{{}int x=1;}}");
            wrong("int main(){" + head + "{if(0)#int x=1;}}");
        }
        wrong("int main(){if(1)#int x=1;else 2;}");
    }

    private static void atMostTwelveVariables() {
        Check.sentence("At most 12 variables are there at a place (those that are hidden, too)");
        Check.accepted("int main(){" + many("int v@=@;", 1, 11) + "}");
        Check.ran("int main(){" + many("int v@=@;", 1, 12) + "return v1*100+v12;}", 0, 112, 1);
        wrong("int main(){" + many("int v@=@;", 1, 12) + "int #w=1;}");
        wrong("int main(){" + many("int v@=@;", 1, 12) + "{int #w=1;}}");
        wrong("int main(){" + many("int v@=@;", 1, 12) + "{int #v1=1;}}");
        wrong("int main(){" + many("int v@=@;", 1, 12) + "int #w=1;int z=1;}");
        // Parameters are among them.
        Check.accepted("int f(int a,int b,int c,int d){" + many("int v@=1;", 1, 7) + "}int main(){}", 2);
        Check.accepted("int f(int a,int b,int c,int d){" + many("int v@=1;", 1, 8) + "}int main(){}", 2);
        wrong("int f(int a,int b,int c,int d){" + many("int v@=1;", 1, 8) + "int #w=1;}int main(){}");
        // Hidden ones are among them.
        Check.accepted("int main(){" + many("int v@=1;", 1, 6) + "{" + many("int v@=1;", 1, 6) + "}}");
        wrong("int main(){" + many("int v@=1;", 1, 6) + "{" + many("int v@=1;", 1, 6) + "int #w=1;}}");
        Check.accepted("int main(){" + "int v=1;{".repeat(11) + "int v=1;" + "}".repeat(12));
        // Those of a block that has ended, or of another function, are not.
        Check.accepted("int main(){" + many("int v@=1;", 1, 11) + "{int w=1;}{int w=1;}int z=1;}");
        wrong("int main(){" + many("int v@=1;", 1, 11) + "{int w=1;}int z=1;int #y=1;}");
        Check.accepted("int f(){" + many("int v@=1;", 1, 12) + "}int main(){" + many("int v@=1;", 1, 12) + "}", 2);
    }

    private static void usedAhead() {
        Check.sentence("Functions and arrays may be used ahead of where they are made");
        Check.ran("int main(){a[1]=f(2);return a[1]+b[0];}int a[2];int f(int p){return p*g();}int b[1];"
                + "int g(){return 4;}", 0, 8, 3);
        Check.ran("int main(){return main2();}int main2(){return 3;}", 0, 3, 2);
    }

    private static void wrongUses() {
        Check.sentence("used as a variable, array or function without being one there");
        String[][] uses = {{"#@;", "variable"}, {"#@=1;", "variable"}, {"return 1+#@;", "variable"},
            {"#@[0];", "array"}, {"#@[0]=1;", "array"}, {"return 1+#@[0];", "array"}, {"#@();", "function"},
            {"return 1+#@();", "function"}, {"print(#@());", "function"}};
        String[][] names = {{"v", "variable"}, {"a", "array"}, {"f", "function"}, {"none", "none"}};
        for (String[] use : uses) {
            for (String[] name : names) {
                String text = "int a[1];int f(){}int main(){int v=1;" + use[0].replace("@", name[0]) + "}";
                if (use[1].equals(name[1])) {
                    Check.accepted(text.replace("#", ""), 2);
                } else {
                    wrong(text);
                }
            }
        }
    }

    private static void wrongCalls() {
        Check.sentence("called with a wrong number of values (the function's NAME)");
        String[] values = {"", "1", "1,2", "1,2,3", "1,2,3,4", "1,2,3,4,5"};
        String[] parameters = {"", "int a", "int a,int b", "int a,int b,int c", "int a,int b,int c,int d"};
        for (int given = 0; given < values.length; given++) {
            for (int taken = 0; taken < parameters.length; taken++) {
                String made = "int f(" + parameters[taken] + "){}";
                String marked = "int main(){1+#f(" + values[given] + ");}";
                if (given == taken) {
                    Check.accepted(made + marked.replace("#", ""), 2);
                } else {
                    wrong(made + marked);
                    wrong(marked + made);
                }
            }
        }
        wrong("int f(int a){}int main(){f(#f());}");
        wrong("int f(int a){}int main(){#f(f(),x);}");
        wrong("int main(){#main(1);}");
    }

    private static void notThere() {
        Check.sentence("An array or function made a second time or one too many is not there");
        // The use stands ahead of what is made, so it is refused if it counts on that.
        wrong("int main(){#f(1);}int f(){}int f(int p){}");
        wrong("int main(){f();}int f(){}int #f(int p){}");
        wrong("int main(){#f();}int f[1];int f(){}");
        wrong("int main(){f[0];}int f[1];int #f(){}");
        wrong("int main(){#a[0];}int a(){}int a[1];");
        wrong("int main(){a();}int a(){}int #a[1];");
        wrong("int main(){#a5[0];}" + many("int a@[1];", 1, 5));
        wrong("int main(){a4[0];}" + many("int a@[1];", 1, 4) + "int #a5[1];");
        wrong("int main(){#f8();}" + many("int f@(){}", 1, 8));
        wrong("int main(){f7();}" + many("int f@(){}", 1, 7) + "int #f8(){}");
        // What is not there is none of the four or eight, and a name is free that it would have had.
        wrong("int main(){a4[0];}int a1[1];int #a1[1];" + many("int a@[1];", 2, 4));
        wrong("int main(){f7();}int f1(){}int #f1(){}" + many("int f@(){}", 2, 7));
        wrong("int main(){z();}" + many("int a@[1];", 1, 4) + "int #z[1];int z(){}");
        wrong("int main(){z[0];}" + many("int f@(){}", 1, 7) + "int #z(){}int z[1];");
        // An array of a wrong length is there.
        wrong("int main(){a[0];}int a[#0];");
        wrong("int main(){#a();}int a[17];int a(){}");
        wrong("int main(){#e[0];}int a[17];" + many("int a@[1];", 2, 4) + "int e[1];");
    }

    private static void parametersBeyondFour() {
        Check.sentence("parameters beyond four count in calls");
        wrong("int main(){#f(1,2,3,4);}int f(int a,int b,int c,int d,int e){}");
        wrong("int main(){f(1,2,3,4,5);}int f(int a,int b,int c,int d,int #e){}");
        wrong("int main(){#f(1,2,3,4,5,6);}int f(int a,int b,int c,int d,int e){}");
        wrong("int main(){f(1,2,3,4,5,6);}int f(int a,int b,int c,int d,int #e,int g){}");
        wrong("int main(){#f(1,2,3,4,5);}int f(int a,int b,int c,int d,int e,int g){}");
    }

    private static void noMain() {
        Check.sentence("When there is no function \"main\" without parameters: 4, at the text's length");
        Check.accepted("int main(){}");
        for (String text : new String[] {"int f(){}", "int main(int a){}", "int main(int a,int b){}", "int main[1];",
            "int Main(){}", "int mai(){}", "int mainn(){}", "int a[1];", "int f(){}int g(){}"}) {
            for (String behind : new String[] {"", " ", "\n\n ", " ".repeat(479 - text.length()),
                " ".repeat(480 - text.length())}) {
                Check.refused(text + behind, 4, (text + behind).length());
            }
        }
        wrong("int f(){#x=1;}");
        wrong("int main(int a){}int #main(){}");
        wrong("int main[1];int #main(){}");
    }

    private static void orderOfReasons() {
        Check.sentence("looked at in the order 1, 2 (tokens), 3 and 2 (open), 4");
        String name = "int main(){x=1;}";
        String open = "int f()" + "{".repeat(13) + "}".repeat(13);
        String many = "1;".repeat(111);
        Check.refused(name + "$", 1, 16);
        Check.refused(name + " 1a", 1, 17);
        Check.refused(open + "$", 1, 33);
        Check.refused(")" + name + "$", 1, 17);
        Check.refused(many + "$", 1, 222);
        Check.refused(many + " 2147483648", 1, 223);
        Check.refused(many + " abcdefghi", 1, 223);
        Check.refused(")" + many, 2, 220);
        Check.refused(name + many, 2, 16 + 210);
        Check.refused(open + many, 2, 33 + 220 - 30);
        Check.refused(name + open, 2, 16 + 19);
        Check.refused(name + ")", 3, 16);
        Check.refused("int a[0];int a[0];" + ")", 3, 18);
        Check.refused(name, 4, 11);
    }

    private static void threeOrTwo() {
        Check.sentence("of 3 and 2 (open) whatever comes first");
        Check.refusedAtMark("int main(){#)" + "(".repeat(13), 3);
        Check.refusedAtMark("int main(){" + "(".repeat(11) + "#()", 2);
        Check.refusedAtMark("int main(){" + "(".repeat(11) + "#)(", 3);
        Check.refusedAtMark("int main(){" + "(".repeat(10) + "#)((", 3);
    }

    private static void firstPlace() {
        Check.sentence("the first kind that there is, at its first place");
        Check.refused("int $ # ?", 1, 4);
        Check.refused("abcdefghi 1a $", 1, 0);
        Check.refused("int main(){) ) )", 3, 11);
        wrong("int main(){#x=y;z=1;}");
        wrong("int main(){int a=#y;int a=1;}");
        wrong("int main(){#f(x);}int f(){}int f(){}int a[0];");
        wrong("int a[#0];int a[1];int main(){x=1;}");
        wrong("int a[1];int #a[0];int main(){x=1;}");
        wrong("int f(int a,int #a){x;}int main(){}");
        wrong("int main(){if(#x)int y=1;}");
        wrong("int main(){if(1)#int y=x;}");
        wrong("int main(){int a=1;int #a=x;}");
    }
}
