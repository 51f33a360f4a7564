/** The boundaries that "Terms" names for texts and tokens, sentence by sentence. */
public final class BoundaryTokenTest {
    private static final String WRONG = "throws IllegalArgumentException";
    private static final String TOO_LONG = "throws IllegalStateException";
    private static final String[] SIGNS = {"==", "!=", "<=", ">=", "&&", "||", "+", "-", "*", "/", "%", "!", "~",
        "<", ">", "=", "(", ")", "{", "}", "[", "]", ",", ";"};
    private static final String[] WORDS = {"int", "if", "else", "while", "return", "read", "print"};

    public static void main(String[] args) {
        atMost480Characters();
        codes();
        places();
        asLongAsMayBe();
        blanks();
        lettersAndDigits();
        namesOfAtMostEight();
        numbers();
        noLetterBehindANumber();
        signs();
        allElse();
        atMost220Tokens();
        words();
        Check.end();
    }

    private static void accepted(String statements) {
        Check.accepted("int main(){" + statements + "}");
    }

    private static void refused(String markedStatements, int why) {
        Check.refusedAtMark("int main(){" + markedStatements + "}", why);
    }

    private static void atMost480Characters() {
        Check.sentence("A TEXT has at most 480 CHARACTERS");
        for (int count = 1; count <= 8; count++) {
            int n = count;
            long blanks = Check.bytes(" ".repeat(n));
            TinyForge below = Check.typed(" ".repeat(479 - n));
            Check.due("type to 479", Check.of(() -> below.type(blanks, n)), "479");
            TinyForge full = Check.typed(" ".repeat(480 - n));
            Check.due("type to 480", Check.of(() -> full.type(blanks, n)), "480");
            Check.due("type behind 480", Check.of(() -> full.type(blanks, n)), TOO_LONG);
            TinyForge above = Check.typed(" ".repeat(481 - n));
            Check.due("type to 481", Check.of(() -> above.type(blanks, n)), TOO_LONG);
            Check.due("length behind the refused one", above.clear(), 481 - n);
        }
        String text = "int main(){return 7;" + " ".repeat(458);
        Check.ran(text + "}", 0, 7, 1);
        Check.ran(text + " }", 0, 7, 1);
        Check.refused(text + "$", 1, 478);
        Check.refused(text + " $", 1, 479);
    }

    private static void codes() {
        Check.sentence("the codes 10 and 32 .. 126");
        for (int code = 0; code < 256; code++) {
            boolean right = code == 10 || code >= 32 && code <= 126;
            for (int at = 0; at < 8; at++) {
                long bytes = Check.bytes("        ") & ~(255L << 8 * at) | (long) code << 8 * at;
                TinyForge x = Check.typed("   ");
                Check.due("type of " + code + " at " + at, Check.of(() -> x.type(bytes, 8)), right ? "11" : WRONG);
                Check.due("length behind it", x.clear(), right ? 11 : 3);
            }
        }
    }

    private static void places() {
        Check.sentence("at PLACES 0, 1, ..");
        for (int place : new int[] {0, 1, 2, 7, 8, 478, 479}) {
            Check.refused(" ".repeat(place) + "$", 1, place);
            Check.refused("\n".repeat(place) + ";", 3, place);
        }
    }

    private static void asLongAsMayBe() {
        Check.sentence("taken into TOKENS, as long as may be");
        for (String sign : new String[] {"==", "!=", "<=", ">=", "&&", "||"}) {
            accepted("1" + sign + "1;");
            refused("1" + sign + "#=1;", 3);
        }
        refused("1#= =1;", 3);
        refused("1#! =1;", 3);
        refused("1< #=1;", 3);
        refused("1> #=1;", 3);
        refused("1#& &1;", 1);
        refused("1#| |1;", 1);
        refused("1&&#&1;", 1);
        refused("1||#|1;", 1);
        refused("1<#<1;", 3);
        refused("1==#>1;", 3);
        accepted("int x=!1;x==!x;x<-x;x=-~-x;");
        Check.value("12-1", 11);
        refused("1 #2;", 3);
        accepted("int intx=1;int int1=2;intx=int1;");
        refused("#intx=1;", 4);
        refused("#return1;", 4);
        refused("#ifelse;", 4);
    }

    private static void blanks() {
        Check.sentence("blanks (10 and 32) between them being passed over");
        String[] tokens = "int main ( ) { int ab = - 12 ; return ab <= 3 && 1 ; }".split(" ");
        for (String blank : new String[] {" ", "\n", "  ", "\n\n", " \n ", "\n \n"}) {
            Check.ran(blank + String.join(blank, tokens) + blank, 0, 1, 1);
        }
        refused("int a #b=1;", 3);
        refused("return 1 #2;", 3);
        Check.refusedAtMark("#in t main(){}", 3);
    }

    private static void lettersAndDigits() {
        Check.sentence("a NAME, a letter and then letters and digits");
        for (String name : new String[] {"a", "z", "A", "Z", "aA", "zZ", "Az", "Za", "a0", "z9", "A9z0Z"}) {
            accepted("int " + name + "=1;" + name + "=2;");
        }
        // The neighbours of the letters and digits among the codes.
        for (char neighbour : new char[] {'@', '`', ':', '_'}) {
            refused("int a#" + neighbour + "=1;", 1);
            refused("int #" + neighbour + "a=1;", 1);
        }
        refused("int a#{=1;", 3);
        refused("int a#[=1;", 3);
        refused("int a#/=1;", 3);
        refused("int #0=1;", 3);
        refused("int #9=1;", 3);
        refused("int #0a=1;", 1);
        refused("int #9a=1;", 1);
        refused("int a=1;#A=1;", 4);
        refused("int ab=1;#a=1;", 4);
    }

    private static void namesOfAtMostEight() {
        Check.sentence("at most 8 (a longer one is refused, with 1)");
        for (String name : new String[] {"a", "abcdefg", "abcdefgh", "a1234567", "returned", "whileabc"}) {
            Check.ran("int main(){int " + name + "=5;return " + name + ";}", 0, 5, 1);
            Check.accepted("int main(){}int " + name + "[1];");
            Check.accepted("int main(){}int " + name + "(){}", 2);
            Check.accepted("int main(){}int f(int " + name + "){}", 2);
        }
        String digits = "1234567890123456789";
        for (int length : new int[] {9, 10, 16, 17, 18}) {
            String name = "a" + digits.substring(0, length - 1);
            refused("int #" + name + "=5;", 1);
            refused("#" + name + "=5;", 1);
            Check.refusedAtMark("int #" + name + "[1];int main(){}", 1);
            Check.refusedAtMark("int #" + name + "(){}int main(){}", 1);
            Check.refusedAtMark("int f(int #" + name + "){}int main(){}", 1);
        }
        Check.refused("n".repeat(480), 1, 0);
        Check.refusedAtMark("int #main56789(){}", 1);
        Check.refusedAtMark("#returnabc", 1);
        Check.refusedAtMark("int #abcdefghi(){}", 1);
        // All eight characters tell names apart.
        for (String other : new String[] {"Xbcdefgh", "abcdXfgh", "abcdefgX", "abcdefg", "bcdefgh"}) {
            Check.ran("int main(){int abcdefgh=1;int " + other + "=2;return abcdefgh*10+" + other + ";}", 0, 12, 1);
        }
    }

    private static void numbers() {
        Check.sentence("a NUMBER, digits, at most 2147483647");
        Check.value("0", 0);
        Check.value("9", 9);
        Check.value("2147483646", Integer.MAX_VALUE - 1);
        Check.value("2147483647", Integer.MAX_VALUE);
        Check.value("0002147483647", Integer.MAX_VALUE);
        Check.value("0".repeat(440) + "7", 7);
        for (String large : new String[] {"2147483648", "2147483649", "2147483650", "2147483657", "3147483647",
            "9999999999", "4294967295", "4294967296", "4294967297", "21474836470", "9223372036854775807",
            "9223372036854775808", "18446744073709551616", "18446744073709551617", "0002147483648",
            "1" + "0".repeat(400), "9".repeat(440)}) {
            refused("return #" + large + ";", 1);
        }
        refused("return -#2147483648;", 1);
        Check.refusedAtMark("int a[#2147483648];int main(){}", 1);
    }

    private static void noLetterBehindANumber() {
        Check.sentence("with no letter behind it (otherwise 1)");
        for (String letter : new String[] {"a", "z", "A", "Z", "int"}) {
            refused("return #1" + letter + ";", 1);
            refused("return #2147483647" + letter + ";", 1);
            refused("return #2147483648" + letter + ";", 1);
            refused("return #000" + letter + ";", 1);
            refused("return 1+#12" + letter + "3;", 1);
        }
        refused("return 1#_;", 1);
        refused("return 1#@;", 1);
        refused("return 1#`;", 1);
        refused("return 1 #a;", 3);
        refused("return 1\n#a;", 3);
        refused("return 1#{;", 3);
        refused("return 1#[;", 3);
    }

    private static void signs() {
        Check.sentence("a SIGN, == != <= >= && || + - * / % ! ~ < > = ( ) { } [ ] , ;");
        for (String sign : SIGNS) {
            Check.refusedAtMark("int main(){}#" + sign, 3);
            // So many tokens are too many or not: each sign is one.
            String apart = sign + " ";
            Check.refused(apart.repeat(100) + "(".repeat(120), 3, 0);
            Check.refused(apart.repeat(100) + "(".repeat(121), 2, 100 * apart.length() + 120);
            if (sign.length() == 2) {
                Check.refused(sign.repeat(220), 3, 0);
                Check.refused(sign.repeat(221), 2, 440);
            }
        }
    }

    private static void allElse() {
        Check.sentence("All else is refused with 1, at its place (a name or number at its first character)");
        StringBuilder none = new StringBuilder();
        for (char c = 33; c < 127; c++) {
            boolean inName = c >= '0' && c <= '9' || c >= 'A' && c <= 'Z' || c >= 'a' && c <= 'z';
            if (!inName && String.join(" ", SIGNS).replace("&&", "").replace("||", "").indexOf(c) < 0) {
                none.append(c);
            }
        }
        Check.due("the codes of no token", none.toString(), "\"#$&'.:?@\\^_`|");
        for (char c : none.toString().toCharArray()) {
            Check.refused("" + c, 1, 0);
            Check.refused("int main(){}" + c, 1, 12);
            Check.refused("int main()" + c + "{}", 1, 10);
            Check.refused("int ma" + c + "in(){}", 1, 6);
            Check.refused("int main(){return 12" + c + "3;}", 1, 20);
            Check.refused(c + " " + c, 1, 0);
        }
        Check.refused("  abcdefghi $", 1, 2);
        Check.refused("  2147483648 $", 1, 2);
        Check.refused("  $ abcdefghi 1a", 1, 2);
    }

    private static void atMost220Tokens() {
        Check.sentence("At most 220 tokens (else 2, at the one too many)");
        String start = "int main(){";
        Check.accepted(start + "-1;" + "1;".repeat(105) + "}");
        Check.accepted(start + "1;".repeat(107) + "}");
        Check.accepted("\n" + start + "1 ;".repeat(107) + "} \n");
        Check.refused(start + "-1;" + "1;".repeat(106) + "}", 2, 11 + 3 + 212);
        Check.refused(start + "1;".repeat(108) + "}", 2, 11 + 216 - 1);
        Check.refused(start + "1;".repeat(109) + "}", 2, 11 + 216 - 1);
        for (String last : new String[] {"x", "12", "==", ";", "int", "abcdefgh"}) {
            Check.refused("(".repeat(219) + last, 3, 0);
            Check.refused("(".repeat(220) + last, 2, 220);
            Check.refused("(".repeat(220) + " \n" + last, 2, 222);
            Check.refused("(".repeat(220) + " " + last + " " + last, 2, 221);
        }
        Check.refused("(".repeat(220) + " ".repeat(260), 3, 0);
        Check.refused(";".repeat(480), 2, 220);
    }

    private static void words() {
        Check.sentence("WORDS: int if else while return read print");
        for (String word : WORDS) {
            Check.refusedAtMark("int #" + word + "(){}int main(){}", 3);
            Check.refusedAtMark("int #" + word + "[1];int main(){}", 3);
            Check.refusedAtMark("int f(int #" + word + "){}int main(){}", 3);
            refused("int #" + word + "=1;", 3);
            String capital = word.substring(0, 1).toUpperCase() + word.substring(1);
            for (String name : new String[] {capital, word + "s", word + "1", "a" + word}) {
                accepted("int " + name + "=1;" + name + "=2;");
            }
            refused("return 1+#" + word.substring(0, word.length() - 1) + ";", 4);
        }
    }
}
