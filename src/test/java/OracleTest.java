import java.util.ArrayList;
import java.util.Arrays;
import java.util.List;
import java.util.Random;

/**
 * Promises 4 to 6 and 9 to 12 on texts made by chance (always the same ones): right texts, and such
 * with a few tokens or characters changed, each against the Oracle.
 */
public final class OracleTest {
    private static final int TEXTS = 6000;
    private static final String[] TOKENS = {"int", "if", "else", "while", "return", "read", "print", "==", "!=",
        "<=", ">=", "&&", "||", "+", "-", "*", "/", "%", "!", "~", "<", ">", "=", "(", ")", "{", "}", "[", "]", ",",
        ";", "a", "b", "f", "g", "x", "y", "main", "0", "1", "2", "17", "abcdefghi", "$"};

    public static void main(String[] args) {
        int texts = args.length > 0 ? Integer.parseInt(args[0]) : TEXTS;
        long seed = args.length > 1 ? Long.parseLong(args[1]) : 1;
        Comparison comparison = new Comparison();
        for (int k = 0; k < texts; k++) {
            Maker maker = new Maker(seed * 1000003 + k);
            comparison.compare(maker.text(), maker.input());
        }
        comparison.end(texts);
    }

    /** What the program and the Oracle say, and which answers have been met. */
    static final class Comparison {
        private final int[] reasons = new int[5];
        private final int[] states = new int[3];

        void compare(String text, List<Integer> input) {
            if (text.length() > 480) {
                return;
            }
            Oracle oracle = new Oracle(text);
            TinyForge forge = Check.typed(text);
            String what = " of " + text.replace('\n', ' ') + " with " + input;
            reasons[oracle.why]++;
            Check.due("forge()" + what, Check.of(forge::forge),
                    oracle.why == 0 ? "" + oracle.functions : "throws UnsupportedOperationException");
            Check.due("why()" + what, forge.why(), oracle.why);
            Check.due("where()" + what, forge.where(), oracle.where);
            if (oracle.why == 0) {
                compareRuns(forge, oracle, input, what);
            }
        }

        private void compareRuns(TinyForge forge, Oracle oracle, List<Integer> input, String what) {
            for (int number : input) {
                forge.give(number);
            }
            Oracle.Run run = oracle.new Run(input);
            states[run.state]++;
            for (int times = 0; times < 2; times++) {
                Check.due("run()" + what, Check.of(forge::run), "" + run.state);
                Check.due("result()" + what, forge.result(), run.result);
                Check.due("ticks()" + what, forge.ticks(), run.ticks);
                List<Integer> output = new ArrayList<>();
                for (int k = 0; k < forge.output(-1); k++) {
                    output.add(forge.output(k));
                }
                Check.due("output" + what, output, run.output);
            }
        }

        void end(int texts) {
            System.out.println("reasons " + Arrays.toString(reasons) + ", runs " + Arrays.toString(states));
            for (int count : reasons) {
                Check.due("each reason is met", count > texts / 100, true);
            }
            for (int count : states) {
                Check.due("each end of a run is met", count > texts / 100, true);
            }
            Check.end();
        }
    }

    /** Makes one text and an input. */
    private static final class Maker {
        private final Random random;
        private final List<String> made = new ArrayList<>();
        private final List<String> variables = new ArrayList<>();
        private int[] parameters;
        private int arrays;
        private int budget;
        private boolean careful;

        Maker(long seed) {
            random = new Random(seed);
        }

        private boolean oneIn(int n) {
            return random.nextInt(n) == 0;
        }

        List<Integer> input() {
            List<Integer> numbers = new ArrayList<>();
            for (int k = random.nextInt(5); k > 0; k--) {
                numbers.add(oneIn(4) ? random.nextInt() : random.nextInt(9) - 3);
            }
            return numbers;
        }

        String text() {
            careful = !oneIn(4);
            budget = 20 + random.nextInt(130);
            whole();
            if (oneIn(3)) {
                changeTokens();
            }
            StringBuilder text = new StringBuilder();
            for (String token : made) {
                char last = text.length() == 0 ? ' ' : text.charAt(text.length() - 1);
                boolean joins = Character.isLetterOrDigit(last) && Character.isLetterOrDigit(token.charAt(0))
                        || "=!<>&|".indexOf(last) >= 0 && "=&|".indexOf(token.charAt(0)) >= 0;
                text.append(joins && !oneIn(100) || oneIn(30) ? oneIn(5) ? "\n" : " " : "").append(token);
            }
            if (oneIn(20)) {
                int at = random.nextInt(text.length());
                text.setCharAt(at, (char) (32 + random.nextInt(95)));
            }
            return text.toString();
        }

        private void changeTokens() {
            for (int k = 1 + random.nextInt(2); k > 0; k--) {
                int at = random.nextInt(made.size());
                int kind = random.nextInt(4);
                if (kind == 0) {
                    made.remove(at);
                    made.add("1");
                } else if (kind == 1) {
                    made.set(at, TOKENS[random.nextInt(TOKENS.length)]);
                } else if (kind == 2) {
                    made.add(at, TOKENS[random.nextInt(TOKENS.length)]);
                } else {
                    while (made.size() > at + 1) {
                        made.remove(made.size() - 1);
                    }
                }
            }
        }

        private void put(String... tokens) {
            for (String token : tokens) {
                made.add(token);
                budget--;
            }
        }

        private void whole() {
            arrays = random.nextInt(3);
            parameters = new int[1 + random.nextInt(3)];
            for (int k = 1; k < parameters.length; k++) {
                parameters[k] = random.nextInt(oneIn(10) ? 6 : 4);
            }
            boolean behind = oneIn(3);
            if (!behind) {
                makeArrays();
            }
            for (int k = parameters.length - 1; k >= 0; k--) {
                budget = Math.max(budget, 20);
                function(k);
            }
            if (behind) {
                makeArrays();
            }
        }

        private void makeArrays() {
            for (int k = 0; k < arrays; k++) {
                put("int", "" + (char) ('a' + k), "[", oneIn(30) ? "17" : "" + (1 + random.nextInt(4)), "]", ";");
            }
        }

        private String functionName(int k) {
            return k == 0 ? "main" : k == 1 ? "f" : "g";
        }

        private void function(int k) {
            variables.clear();
            put("int", functionName(k), "(");
            for (int p = 0; p < parameters[k]; p++) {
                String name = "p" + p;
                put("int", name);
                variables.add(name);
                if (p + 1 < parameters[k]) {
                    put(",");
                }
            }
            put(")");
            block(0);
        }

        private void block(int depth) {
            int there = variables.size();
            put("{");
            for (int k = random.nextInt(6) + (depth == 0 ? 2 : 0); k > 0 && budget > 0; k--) {
                statement(depth + 1, true);
            }
            if (depth == 0 && !oneIn(3)) {
                put("return");
                value(depth + 1);
                put(";");
            }
            put("}");
            while (variables.size() > there) {
                variables.remove(variables.size() - 1);
            }
        }

        private void statement(int depth, boolean inBlock) {
            int kind = budget < 0 ? 9 : random.nextInt(12);
            if (kind == 0 && depth < 12) {
                block(depth);
            } else if (kind <= 2 && (inBlock || !careful && oneIn(4))) {
                String name = oneIn(3) && !careful ? "x" : "v" + variables.size();
                put("int", name, "=");
                value(depth);
                put(";");
                variables.add(name);
            } else if (kind <= 4 && depth < 12) {
                put("if", "(");
                value(depth);
                put(")");
                statement(depth + 2, false);
                if (oneIn(2)) {
                    put("else");
                    statement(depth + 2, false);
                }
            } else if (kind == 5 && depth < 12) {
                put("while", "(");
                value(depth);
                put(")");
                statement(depth + 2, false);
            } else if (kind == 6 && arrays > 0) {
                element(depth);
                put("=");
                value(depth);
                put(";");
            } else if (kind == 7 && !variables.isEmpty()) {
                put(variables.get(random.nextInt(variables.size())), "=");
                value(depth);
                put(";");
            } else if (kind == 8) {
                put("return");
                value(depth);
                put(";");
            } else if (kind <= 10) {
                put("print", "(");
                value(depth);
                put(")", ";");
            } else {
                value(depth);
                put(";");
            }
        }

        private void element(int depth) {
            put("" + (char) ('a' + random.nextInt(arrays)), "[");
            if (oneIn(2)) {
                put("" + random.nextInt(2));
            } else {
                value(depth + 1);
            }
            put("]");
        }

        private void value(int depth) {
            int kind = budget < 0 || depth > 13 ? 9 : random.nextInt(10);
            if (kind <= 3) {
                value(depth + 1);
                put(TOKENS[7 + random.nextInt(11) + (oneIn(8) ? 2 : 0)].replace("!", "*").replace("*=", "!="));
                value(depth + 1);
            } else if (kind == 4) {
                put("" + "-!~".charAt(random.nextInt(3)));
                value(depth + 1);
            } else if (kind == 5) {
                put("(");
                value(depth + 1);
                put(")");
            } else if (kind == 6 && arrays > 0) {
                element(depth);
            } else if (kind == 7) {
                call(depth);
            } else if (kind == 8 && oneIn(2)) {
                put("read", "(", ")");
            } else if (!variables.isEmpty() && !oneIn(3)) {
                put(variables.get(random.nextInt(variables.size())));
            } else {
                put(oneIn(60) && !careful ? "x" : oneIn(20) ? "2147483647" : "" + random.nextInt(4));
            }
        }

        private void call(int depth) {
            int function = random.nextInt(parameters.length);
            put(functionName(function), "(");
            int count = parameters[function] + (oneIn(40) ? 1 : 0);
            for (int k = 0; k < count; k++) {
                value(depth + 1);
                if (k + 1 < count) {
                    put(",");
                }
            }
            put(")");
        }
    }
}
