/** The boundaries that "Terms" names for the grammar and for what is open, sentence by sentence. */
public final class BoundaryGrammarTest {
    /** The signs between two values, those that bind alike in one row, the weakest first. */
    private static final String[][] STRENGTHS = {{"||"}, {"&&"}, {"==", "!="}, {"<", ">", "<=", ">="}, {"+", "-"},
        {"*", "/", "%"}};
    private static final String GLOBALS = "int a[9];int f(){}int g(int p){}int h(int p,int q){}";

    public static void main(String[] args) {
        noPartOneTwo();
        noneOneMany();
        nearestIf();
        firstTokenThatDoesNotFit();
        textsEnd();
        openKinds();
        openStatements();
        openBrackets();
        openSigns();
        openSignsSecondPart();
        neverOpen();
        asSoonAsItIsComeTo();
        Check.end();
    }

    private static void noPartOneTwo() {
        Check.sentence("whole: part part*");
        Check.refused("", 3, 0);
        Check.refused(" ", 3, 1);
        Check.refused("\n\n", 3, 2);
        Check.accepted("int main(){}");
        Check.accepted("int main(){}int a[1];");
        Check.accepted("int a[1];int main(){}");
        Check.refusedAtMark("int main(){}#main(){}", 3);
    }

    private static void noneOneMany() {
        Check.sentence("[ ] perhaps, * any number of times");
        Check.accepted("int f(){}int main(){f();}", 2);
        Check.accepted("int f(int a){}int main(){f(1);}", 2);
        Check.accepted("int f(int a,int b){}int main(){f(1,2);}", 2);
        Check.refusedAtMark("int f(int a,#){}", 3);
        Check.refusedAtMark("int main(){f(1,#);}", 3);
        Check.accepted("int main(){1;}");
        Check.accepted("int main(){1;2;}");
        Check.accepted("int main(){" + "1;".repeat(107) + "}");
        Check.accepted("int main(){if(1)1;}");
        Check.accepted("int main(){if(1)1;else 2;}");
        Check.refusedAtMark("int main(){if(1)1;else 2;#else 3;}", 3);
        for (String[] row : STRENGTHS) {
            for (String sign : row) {
                Check.accepted("int main(){1" + (sign + "1").repeat(106) + ";}");
            }
        }
    }

    private static void nearestIf() {
        Check.sentence("\"else\" belongs to the nearest \"if\"");
        String text = "int main(){int x=read();int y=read();if(x)if(y)return 1;else return 2;return 3;}";
        int[][] dues = {{0, 0, 3}, {0, 1, 3}, {1, 0, 2}, {1, 1, 1}};
        for (int[] due : dues) {
            Check.ran(text, new int[] {due[0], due[1]}, 0, due[2], 1);
        }
        text = "int main(){int x=read();int y=read();if(x)while(y)if(0)1;else return 2;else return 4;return 3;}";
        int[][] more = {{0, 0, 4, 1}, {0, 1, 4, 1}, {1, 0, 3, 2}, {1, 1, 2, 2}};
        for (int[] due : more) {
            Check.ran(text, new int[] {due[0], due[1]}, 0, due[2], due[3]);
        }
        Check.ran("int main(){if(0){if(1)1;}else return 5;return 6;}", 0, 5, 1);
    }

    private static void firstTokenThatDoesNotFit() {
        Check.sentence("refused with 3, at the first token with which no right text could go on");
        // A value may still begin with these, until the = comes.
        for (String start : new String[] {"1", "(x)", "x+y", "-x", "f()", "f(1)", "a[1]+1", "a[1]==a[1]", "read()"}) {
            Check.refusedAtMark("int main(){" + start + "#=1;}", 3);
        }
        Check.refusedAtMark("int main(){a[1]=a[2]#=1;}", 3);
        Check.refusedAtMark("int main(){int a#[1]=1;}", 3);
        Check.refusedAtMark("int main(){int f#(){}}", 3);
        Check.refusedAtMark("int main#;", 3);
        Check.refusedAtMark("int a[1]#,b[1];", 3);
        Check.refusedAtMark("int a[1#+1];", 3);
        Check.refusedAtMark("int main(){}#}", 3);
        Check.refusedAtMark("int main(){{}#", 3);
        // A bracket, brace or end that is left out.
        for (String left : new String[] {"if #1)1;", "while #1)1;", "print #1);", "read#);", "a #1]=1;", "f #1);",
            "if(1 #1;", "while(1 #1;", "print(1#;", "read(#;", "a[1#=1;", "f(1#;", "(1#;", "1#}", "x=1#}",
            "int x=1#}", "return 1#}", "print(1)#}", "a[1]=1#}", "if(1)1 #else 2;"}) {
            Check.refusedAtMark("int main(){" + left + "}", 3);
        }
        Check.refusedAtMark("int main()#1;}", 3);
        Check.refusedAtMark("int main(#{1;}", 3);
        Check.refusedAtMark("int main#){1;}", 3);
        Check.refusedAtMark("int a #1];", 3);
        Check.refusedAtMark("int a[1#;", 3);
        Check.refusedAtMark("int a[1]#int main(){}", 3);
    }

    /** Cut behind a token, a right text goes on with its next one: only the end is wrong. */
    private static void textsEnd() {
        Check.sentence("(at its end: at the text's length)");
        String[] tokens = ("int a [ 3 ] ; int f ( int p , int q ) { if ( p ) { return q ; } else while ( ! q ) q = 1 ; "
                + "int v = a [ 0 ] ; a [ v ] = f ( 1 , - v ) ; print ( read ( ) ) ; f ( 1 , 2 ) ; ( 1 ) ; "
                + "a [ 1 ] + 2 ; return ~ p && q || 1 * 2 ; } int main ( ) { }").split(" ");
        StringBuilder text = new StringBuilder();
        for (int k = 0; k < tokens.length - 1; k++) {
            text.append(tokens[k]).append(' ');
            // Behind a part the text is right, but for its main.
            boolean whole = k == 5 || tokens[k].equals("}") && tokens[k + 1].equals("int");
            for (String blanks : new String[] {"", "\n", " \n  "}) {
                String cut = text + blanks;
                Check.refused(cut, whole ? 4 : 3, cut.length());
                cut = text.toString().trim() + blanks;
                Check.refused(cut, whole ? 4 : 3, cut.length());
            }
        }
        Check.accepted(text + "}", 2);
        Check.refused("int main(){" + " ".repeat(468), 3, 479);
        Check.refused("int main(){" + " ".repeat(469), 3, 480);
    }

    /** Statements in so many blocks, one within the other; the function's own is one of them. */
    private static String within(int blocks, String statements) {
        return GLOBALS + "int main()" + "{".repeat(blocks) + statements + "}".repeat(blocks);
    }

    /** In so many blocks the statement fits, and in one more the token at the mark is refused. */
    private static void fitsWithin(int blocks, String marked) {
        Check.accepted(within(blocks - 1, marked.replace("#", "")), 4);
        Check.accepted(within(blocks, marked.replace("#", "")), 4);
        Check.refusedAtMark(within(blocks + 1, marked), 2);
    }

    private static void openKinds() {
        Check.sentence("a token that would make more than 12 open is refused with 2");
        fitsWithin(11, "#{}");
        for (String opening : new String[] {"#(1);", "f#();", "g#(1);", "h#(1,2);", "a#[1];", "a#[1]=2;", "read#();",
            "print#(1);", "if#(1)1;", "if#(1)1;else 2;", "while#(1)1;", "#-1;", "#!1;", "#~1;", "return #-1;",
            "return f#();", "int v=#(1);", "int v=0;v=a#[1];"}) {
            fitsWithin(11, opening);
        }
        for (String[] row : STRENGTHS) {
            for (String sign : row) {
                fitsWithin(11, "1#" + sign + "1;");
            }
        }
    }

    private static void openStatements() {
        Check.sentence("statements of \"if\" and \"while\" (opened by their \")\" and by \"else\")");
        for (String head : new String[] {"if(1)", "while(1)", "if(1)1;else "}) {
            fitsWithin(10, head + "#{}");
            fitsWithin(10, head + "#-1;");
            fitsWithin(10, head + "print#(1);");
            fitsWithin(10, head + "if#(1)1;");
            fitsWithin(9, head + "{#{}}");
            fitsWithin(9, head + head + "#{}");
            fitsWithin(8, head + "{" + head + "#{}}");
            Check.accepted(within(11, head + "1;"), 4);
            Check.accepted(within(11, head + "1;" + head + "1;" + head + "return 1;"), 4);
            Check.accepted("int main(){" + head.repeat(11) + "1;}");
            Check.refusedAtMark("int main(){" + head.repeat(11) + "#-1;}", 2);
            Check.refusedAtMark("int main(){" + head.repeat(11) + "if#(1)1;}", 2);
        }
        // The statement of "if" is over where its "else" begins.
        fitsWithin(10, "if(1)1;else #{}");
        fitsWithin(11, "if#(1)1;else 1;");
        Check.accepted("int main(){" + "if(1)".repeat(11) + "1;" + "else 2;".repeat(11) + "}");
        Check.refusedAtMark("int main(){" + "if(1)".repeat(11) + "1;else #-2;}", 2);
        Check.accepted("int main(){" + "if(1)".repeat(11) + "1;else 2;else -3;}");
        // Their brackets are over where their statements begin.
        fitsWithin(10, "if(#(1))1;");
        fitsWithin(10, "while(#-1)1;");
        fitsWithin(10, "if(1#+1)1;else 1;");
    }

    private static void openBrackets() {
        Check.sentence("brackets (not those of a function's parameters)");
        String[][] pairs = {{"(", ")"}, {"a[", "]"}, {"g(", ")"}, {"h(1,", ")"}};
        for (String[] pair : pairs) {
            String marked = pair[0].replaceFirst("[(\\[]", "#$0");
            Check.accepted(GLOBALS + "int main(){" + pair[0].repeat(11) + "1" + pair[1].repeat(11) + ";}", 4);
            Check.refusedAtMark(GLOBALS + "int main(){" + pair[0].repeat(11) + marked + "1" + pair[1].repeat(12)
                    + ";}", 2);
            fitsWithin(10, pair[0] + "#(1)" + pair[1] + ";");
            fitsWithin(10, pair[0] + "read#()" + pair[1] + ";");
            fitsWithin(10, pair[0] + "f#()" + pair[1] + ";");
            // A bracket that is closed is open no more.
            Check.accepted(within(11, (pair[0] + "1" + pair[1] + ";").repeat(3)), 4);
            fitsWithin(10, pair[0] + "1" + pair[1] + "+#(1);");
        }
        fitsWithin(10, "print(#(1));");
        fitsWithin(11, "h#(1,2);");
        fitsWithin(10, "h(1,#(2));");
        fitsWithin(10, "h(#(1),2);");
        fitsWithin(10, "a[#(1)]=2;");
        Check.accepted(within(11, "a[1]=(2);"), 4);
        Check.accepted("int k(int p,int q)" + "{".repeat(12) + "}".repeat(12) + "int main(){}", 2);
        Check.refusedAtMark("int k(int p,int q)" + "{".repeat(12) + "#{" + "}".repeat(13) + "int main(){}", 2);
        // What was open in one function is not in the next.
        Check.accepted("int k()" + "{".repeat(12) + "}".repeat(12) + "int main()" + "{".repeat(12) + "}".repeat(12), 2);
    }

    private static void openSigns() {
        Check.sentence("signs before a value");
        for (String sign : new String[] {"-", "!", "~"}) {
            Check.accepted("int main(){" + sign.repeat(10) + "1;}");
            Check.accepted("int main(){" + sign.repeat(11) + "1;}");
            Check.refusedAtMark("int main(){" + sign.repeat(11) + "#" + sign + "1;}", 2);
            fitsWithin(10, sign + "#(1);");
            fitsWithin(10, sign + "a#[1];");
            fitsWithin(10, sign + "read#();");
            // It is before one value alone: what stands behind that does not belong to it.
            fitsWithin(11, "#" + sign + "1+1;");
            fitsWithin(11, "#" + sign + "1*1+1;");
            fitsWithin(10, "(1)+#" + sign + "1;");
        }
    }

    /** A stronger sign behind it still belongs to the second part of a sign; any other ends that. */
    private static void openSignsSecondPart() {
        Check.sentence("signs between two (not the = of a statement) whose second part is not whole");
        for (int first = 0; first < STRENGTHS.length; first++) {
            for (int second = 0; second < STRENGTHS.length; second++) {
                for (String one : STRENGTHS[first]) {
                    for (String other : STRENGTHS[second]) {
                        if (second > first) {
                            fitsWithin(10, "1" + one + "1#" + other + "1;");
                        } else {
                            fitsWithin(11, "1#" + one + "1" + other + "1;");
                        }
                    }
                }
            }
        }
        fitsWithin(6, "1||1&&1==1<1+1#*1;");
        fitsWithin(5, "1||1&&1==1<1+1*#-1;");
        fitsWithin(10, "1*1+1<1==1&&1||#(1);");
        fitsWithin(10, "1+#(1)+1;");
        fitsWithin(10, "(1)*1+#(1);");
        fitsWithin(11, "1#+1+1+1+1+1+1+1+1+1+1+1+1+1;");
    }

    private static void neverOpen() {
        Check.sentence("(not the = of a statement)");
        Check.accepted(within(12, "int v=1;v=2;v;return v;"), 4);
        Check.accepted(within(11, "a[1]=2;"), 4);
        fitsWithin(11, "a#[1]=2;");
        fitsWithin(11, "int v=#-1;");
        fitsWithin(11, "int v=1;v=#-1;");
        fitsWithin(11, "int v=1;v=v#==1;");
    }

    private static void asSoonAsItIsComeTo() {
        Check.sentence("(as soon as it is come to)");
        String full = "int main()" + "{".repeat(12);
        Check.refusedAtMark(full + "#(", 2);
        Check.refusedAtMark(full + "#(;", 2);
        Check.refusedAtMark(full + "#{)", 2);
        Check.refusedAtMark(full + "if#(", 2);
        Check.refusedAtMark(full + "1#+;", 2);
        Check.refusedAtMark(full + "x#[", 2);
        // A token that no right text goes on with opens nothing.
        Check.refusedAtMark(full + "1#(", 3);
        Check.refusedAtMark(full + "1#{", 3);
        Check.refusedAtMark(full + "1;#*", 3);
        Check.refusedAtMark(full + "return #{", 3);
        Check.refusedAtMark(full + "if#{", 3);
        Check.refusedAtMark(full + "read#[", 3);
        Check.refusedAtMark(full + "x=1#[", 3);
        Check.refusedAtMark(full + "#else", 3);
    }
}
