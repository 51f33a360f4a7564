/** Promises 4 to 6 where tokens are refused (reasons 1 and 2). */
public final class TokenTest {
    public static void main(String[] args) {
        names();
        numbers();
        signs();
        blanks();
        numberOfTokens();
        order();
        Check.end();
    }

    private static void names() {
        Check.accepted("int main(){int abcdefgh=1;int A1b2C3d4=abcdefgh;}");
        Check.accepted("int main(){int returned=1;int Int=1;int ifx=1;int printer=1;int reads=2;}");
        Check.refusedAtMark("int main(){int #abcdefghi=1;}", 1);
        Check.refusedAtMark("int main(){int #a12345678=1;}", 1);
        Check.refusedAtMark("int main(){int a#_b=1;}", 1);
        Check.refusedAtMark("#abcdefghijklmnopqrstuvwxyz", 1);
        Check.ran("int main(){int a=1;int A=2;return a*10+A;}", 0, 12, 1);
        Check.ran("int main(){int abcdefgh=1;int abcdefgi=2;int bbcdefgh=3;return abcdefgh;}", 0, 1, 1);
        for (String word : new String[] {"int", "if", "else", "while", "return", "read", "print"}) {
            Check.refusedAtMark("int #" + word + "(){}", 3);
            Check.refusedAtMark("int main(){int #" + word + "=1;}", 3);
        }
    }

    private static void numbers() {
        Check.value("2147483647", Integer.MAX_VALUE);
        Check.value("00000000000000000000000000000000000000012", 12);
        Check.value("0", 0);
        Check.refusedAtMark("int main(){return #2147483648;}", 1);
        Check.refusedAtMark("int main(){return -#2147483648;}", 1);
        Check.refusedAtMark("int main(){return #4294967297;}", 1);
        Check.refusedAtMark("int main(){return #21474836470;}", 1);
        Check.refusedAtMark("int main(){return #21474836471;}", 1);
        Check.refusedAtMark("int main(){return #18446744073709551617;}", 1);
        Check.refusedAtMark("int main(){return #99999999999999999999999999999999;}", 1);
        Check.refusedAtMark("int main(){return #1a;}", 1);
        Check.refusedAtMark("int main(){return #12Z;}", 1);
        Check.refusedAtMark("int main(){return 1#.5;}", 1);
        Check.refusedAtMark("int main(){return 1 #a;}", 3);
        Check.refusedAtMark("#0x", 1);
    }

    private static void signs() {
        Check.value("1<=1", 1);
        Check.value("1==1", 1);
        Check.value("2!=!2", 1);
        Check.value("1--1", 2);
        Check.value("!!7", 1);
        Check.refusedAtMark("int main(){return 1< #=1;}", 3);
        Check.refusedAtMark("int main(){return 1==#=1;}", 3);
        Check.refusedAtMark("int main(){return 1#&1;}", 1);
        Check.refusedAtMark("int main(){return 1&&#&1;}", 1);
        Check.refusedAtMark("int main(){return 1#|1;}", 1);
        Check.refusedAtMark("int main(){return 1||#|1;}", 1);
        Check.refusedAtMark("int main(){return 1#& &1;}", 1);
        String strange = "\"$'.:?@\\^_`&|";
        for (int k = 0; k < strange.length(); k++) {
            Check.refusedAtMark("int main(){}#" + strange.charAt(k), 1);
        }
        Check.refused("#", 1, 0);
        Check.refused("int #", 1, 4);
    }

    private static void blanks() {
        Check.accepted("  int\nmain\n(\n)\n{ }  \n");
        Check.accepted("int\n\nmain(){return\n-1;}\n");
        Check.refused("intmain(){}", 3, 0);
        Check.refused("int main(){return 1 2;}", 3, 20);
        Check.refused("", 3, 0);
        Check.refused("  \n ", 3, 4);
        Check.refused("int  \n ", 3, 7);
    }

    /** With its braces, main has six tokens ahead of its statements of two. */
    private static String withTokens(int count) {
        String odd = count % 2 == 0 ? "" : "-";
        return "int main(){" + odd + "1;".repeat((count - 6) / 2) + "}";
    }

    private static void numberOfTokens() {
        Check.accepted(withTokens(219));
        Check.accepted(withTokens(220));
        String text = withTokens(221);
        Check.refused(text, 2, text.length() - 1);
        text = withTokens(224);
        Check.refused(text, 2, text.length() - 4);
        Check.accepted(withTokens(220) + "  \n");
        Check.refused(";".repeat(480), 2, 220);
        Check.refused(";".repeat(220), 3, 0);
    }

    private static void order() {
        Check.refused(";".repeat(300) + "$", 1, 300);
        Check.refused(";".repeat(479) + "$", 1, 479);
        Check.refused(";".repeat(300) + " 1a", 1, 301);
        Check.refused("int main(){return y;} } $ #", 1, 24);
        Check.refused("int main(){y=1;}}", 3, 16);
        Check.refused("}" + ";".repeat(230), 2, 220);
    }
}
