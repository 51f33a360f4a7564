import java.util.ArrayList;
import java.util.List;
import java.util.Random;

/**
 * Promises 4 to 6 and 9 to 12 on texts made by chance (always the same ones) close to the document's
 * bounds: just within one or just beyond it, each against the Oracle.
 */
public final class BoundaryOracleTest {
    private static final int TEXTS = 4000;
    private static final String[] SIGNS = {"==", "!=", "<=", ">=", "&&", "||", "+", "-", "*", "/", "%", "<", ">"};

    public static void main(String[] args) {
        int texts = args.length > 0 ? Integer.parseInt(args[0]) : TEXTS;
        long seed = args.length > 1 ? Long.parseLong(args[1]) : 1;
        OracleTest.Comparison comparison = new OracleTest.Comparison();
        for (int k = 0; k < texts; k++) {
            Maker maker = new Maker(seed * 1000003 + k);
            comparison.compare(maker.text(), maker.input());
        }
        comparison.end(texts);
    }

    /** Makes one text and an input. */
    private static final class Maker {
        private final Random random;
        private int arrays;
        private int functions;
        private int parameters;

        Maker(long seed) {
            random = new Random(seed);
        }

        private boolean oneIn(int n) {
            return random.nextInt(n) == 0;
        }

        private int between(int least, int most) {
            return least + random.nextInt(most - least + 1);
        }

        private String any(String... choices) {
            return choices[random.nextInt(choices.length)];
        }

        List<Integer> input() {
            List<Integer> numbers = new ArrayList<>();
            for (int k = oneIn(3) ? between(18, 20) : between(0, 2); k > 0; k--) {
                numbers.add(oneIn(3) ? between(Integer.MAX_VALUE - 1, Integer.MAX_VALUE) : between(-1, 3));
            }
            return numbers;
        }

        String text() {
            arrays = oneIn(3) ? between(3, oneIn(3) ? 5 : 4) : between(1, 2);
            functions = oneIn(3) ? between(6, oneIn(3) ? 8 : 7) : between(1, 2);
            parameters = oneIn(3) ? between(3, oneIn(3) ? 5 : 4) : 1;
            List<String> parts = new ArrayList<>();
            for (int k = 1; k <= arrays; k++) {
                parts.add("int a" + (oneIn(60) ? 1 : k) + "[" + length() + "];");
            }
            for (int k = 1; k <= functions; k++) {
                parts.add("int f" + (oneIn(90) ? 1 : k) + "(int p" + (k == 1 ? more() : "") + "){" + simple() + "}");
            }
            String main = main();
            parts.add(random.nextInt(parts.size() + 1), main);
            String text = String.join(oneIn(4) ? "\n" : "", parts);
            if (oneIn(8)) {
                text = text.replaceFirst("\\}$", "1;".repeat(between(0, 110)) + "}");
            }
            if (oneIn(20)) {
                text = text + any("$", "int", "}", "1a", "abcdefghi", "2147483648", " ".repeat(20));
            }
            return oneIn(15) ? new StringBuilder(text).deleteCharAt(random.nextInt(text.length())).toString() : text;
        }

        private String length() {
            return oneIn(40) ? any("0", "17") : any("1", "2", "15", "16");
        }

        private String more() {
            StringBuilder more = new StringBuilder();
            for (int k = 2; k <= parameters; k++) {
                more.append(",int ").append(oneIn(40) ? "p" : "q" + k);
            }
            return more.toString();
        }

        private String main() {
            String body;
            switch (random.nextInt(5)) {
                case 0:
                    body = nested(between(9, 12));
                    break;
                case 1:
                    body = variables(between(10, 13));
                    break;
                case 2:
                    body = "int i=0;while(i<" + between(394, 400) + ")i=i+1;" + simple() + simple();
                    break;
                case 3:
                    body = "int i=0;while(i<" + between(28, 31) + "){print(i);i=i+1;}" + simple();
                    break;
                default:
                    body = "a1[0]=a1[0]+1;if(a1[0]<" + between(10, 13) + ")" + any("main();", "return main()+1;",
                            "{print(1);main();}", "print(main());") + simple();
                    break;
            }
            String end = any("", "", "return " + value(1) + ";");
            return "int main(" + (oneIn(40) ? "int p" : "") + "){" + body + end + "}";
        }

        private String simple() {
            return any("", "print(" + value(1) + ");", "a1[" + value(1) + "]=" + value(1) + ";", value(2) + ";",
                    "if(" + value(1) + ")print(1);else return 2;", "while(" + value(1) + ")return 3;", "return 4;");
        }

        /** A statement in which about so many things are open. */
        private String nested(int open) {
            if (open <= 0) {
                return any("1;", "{}", "return 1;", "{int x=1;}", "read();", "if(1)1;", oneIn(4) ? "int x=1;" : "2;");
            }
            switch (random.nextInt(9)) {
                case 0:
                case 1:
                    return "{" + any("", "1;", "int x=1;") + nested(open - 1) + "}";
                case 2:
                    return "if(1)" + nested(open - 1) + any("", "else 1;", "else " + nested(open - 1));
                case 3:
                    return "if(0)1;else " + nested(open - 1);
                case 4:
                    return "while(" + any("0", "read()") + ")" + nested(open - 1);
                case 5:
                    return "print(" + value(open - 1) + ");";
                case 6:
                    return "a1[" + value(open - 1) + "]=" + value(open) + ";";
                case 7:
                    return "return " + value(open) + ";";
                default:
                    return value(open) + ";";
            }
        }

        private String value(int open) {
            if (open <= 0) {
                return any("0", "1", "2", "read()", "-1", "16", "2147483647", oneIn(50) ? "x" : "3");
            }
            switch (random.nextInt(8)) {
                case 0:
                    return "(" + value(open - 1) + ")";
                case 1:
                    return any("-", "!", "~") + value(open - 1);
                case 2:
                case 3:
                    return any("1", "0", "a1[0]") + any(SIGNS) + value(open - 1);
                case 4:
                    return value(open - 1) + any(SIGNS) + value(Math.min(open - 1, 2));
                case 5:
                    return "a" + between(1, arrays) + "[" + value(open - 1) + "]";
                case 6:
                    return functions == 1 ? "read()" : "f" + between(2, functions) + "(" + value(open - 1) + ")";
                default:
                    int more = oneIn(30) ? between(0, 5) : parameters - 1;
                    return "f1(" + value(open - 1) + ",1".repeat(more) + ")";
            }
        }

        /** So many variables, some of them in blocks within blocks. */
        private String variables(int count) {
            StringBuilder made = new StringBuilder();
            int blocks = 0;
            for (int k = 1; k <= count; k++) {
                made.append("int ").append(oneIn(20) ? "v" : "v" + k).append("=").append(k).append(";");
                if (oneIn(4)) {
                    made.append("{");
                    blocks++;
                } else if (oneIn(8) && blocks > 0) {
                    made.append("}");
                    blocks--;
                }
            }
            made.append("print(v").append(between(1, count)).append(");");
            return made + "}".repeat(blocks);
        }
    }
}
