import java.math.BigInteger;
import java.util.ArrayList;
import java.util.Arrays;
import java.util.HashSet;
import java.util.LinkedHashMap;
import java.util.LinkedHashSet;
import java.util.List;
import java.util.Map;
import java.util.Set;
import java.util.TreeSet;
import java.util.regex.Matcher;
import java.util.regex.Pattern;

/**
 * The document's words once more, by other means than the program's: tokens by a pattern, the place
 * of a 3 by Earley's algorithm over the grammar as it is written, what is open from a tree of the
 * text carried to an end, names from sets, and runs by walking the tree.
 */
final class Oracle {
    record Token(String text, int place) {
        boolean isName() {
            return Character.isLetter(text.charAt(0)) && !WORDS.contains(text);
        }

        String terminal() {
            return isName() ? "NAME" : Character.isDigit(text.charAt(0)) ? "NUMBER" : text;
        }
    }

    /** A part of the text: its kind, its first token, what it holds, and its name, sign or number. */
    record Node(String kind, Token token, List<Node> kids, String text) {
        Node kid(int k) {
            return kids.get(k);
        }
    }

    /** From the token that opens something to the one at which it is whole. */
    record Span(int from, int to) {
    }

    private static final Set<String> WORDS =
            new HashSet<>(Arrays.asList("int if else while return read print".split(" ")));
    private static final Pattern TOKEN = Pattern.compile(
            "(?<name>[A-Za-z][A-Za-z0-9]*)|(?<number>[0-9]+[A-Za-z]?)|==|!=|<=|>=|&&|\\|\\||[-+*/%!~<>=(){}\\[\\],;]");
    private static final String[] GRAMMAR = {
        "whole: part", "whole: whole part",
        "part: int NAME [ NUMBER ] ;", "part: int NAME ( ) block", "part: int NAME ( parameters ) block",
        "parameters: int NAME", "parameters: parameters , int NAME",
        "block: { }", "block: { statements }", "statements: statement", "statements: statements statement",
        "statement: block", "statement: int NAME = value ;", "statement: NAME = value ;",
        "statement: NAME [ value ] = value ;", "statement: if ( value ) statement",
        "statement: if ( value ) statement else statement", "statement: while ( value ) statement",
        "statement: return value ;", "statement: print ( value ) ;", "statement: value ;",
        "value: either", "either: both", "either: either || both", "both: same", "both: both && same",
        "same: order", "same: same == order", "same: same != order",
        "order: sum", "order: order < sum", "order: order > sum", "order: order <= sum", "order: order >= sum",
        "sum: product", "sum: sum + product", "sum: sum - product",
        "product: one", "product: product * one", "product: product / one", "product: product % one",
        "one: - one", "one: ! one", "one: ~ one", "one: NUMBER", "one: read ( )", "one: NAME",
        "one: NAME [ value ]", "one: NAME ( )", "one: NAME ( values )", "one: ( value )",
        "values: value", "values: values , value"};
    private static final List<List<String>> RULES = new ArrayList<>();
    private static final List<Set<String>> LEVELS = Arrays.asList(Set.of("||"), Set.of("&&"), Set.of("==", "!="),
            Set.of("<", ">", "<=", ">="), Set.of("+", "-"), Set.of("*", "/", "%"));

    static {
        for (String rule : GRAMMAR) {
            RULES.add(Arrays.asList(rule.replaceFirst(":", "").split(" ")));
        }
    }

    int why = 0;
    int where = -1;
    int functions = 0;
    private final String text;
    private final List<Token> tokens = new ArrayList<>();
    private final List<Span> spans = new ArrayList<>();
    private final TreeSet<Integer> wrongNames = new TreeSet<>();
    private final Map<String, Node> globals = new LinkedHashMap<>();
    private Node whole;

    Oracle(String text) {
        this.text = text;
        if (!takeTokens()) {
            return;
        }
        if (tokens.size() > 220) {
            refuse(2, tokens.get(220).place());
            return;
        }
        int fit = fittingTokens(tokens);
        List<Token> carried = carriedToAnEnd(tokens.subList(0, Math.min(fit, tokens.size())));
        whole = new Trees(carried).whole();
        int open = firstTooManyOpen();
        if (open < fit) {
            refuse(2, tokens.get(open).place());
        } else if (fit <= tokens.size()) {
            refuse(3, fit < tokens.size() ? tokens.get(fit).place() : text.length());
        } else {
            checkNames();
        }
    }

    private void refuse(int reason, int place) {
        why = reason;
        where = place;
    }

    private boolean takeTokens() {
        Matcher matcher = TOKEN.matcher(text);
        for (int at = 0; at < text.length();) {
            if (text.charAt(at) == ' ' || text.charAt(at) == '\n') {
                at++;
                continue;
            }
            if (!matcher.find(at) || matcher.start() != at || isWrong(matcher)) {
                refuse(1, at);
                return false;
            }
            tokens.add(new Token(matcher.group(), at));
            at = matcher.end();
        }
        return true;
    }

    private static boolean isWrong(Matcher matcher) {
        String name = matcher.group("name");
        String number = matcher.group("number");
        if (name != null) {
            return name.length() > 8;
        }
        return number != null && (!number.matches("[0-9]+")
                || new BigInteger(number).bitLength() > 31);
    }

    /** A rule that has been read up to a dot, begun at a token. */
    private record Item(List<String> rule, int dot, int from) {
        String next() {
            return dot < rule.size() ? rule.get(dot) : null;
        }

        Item moved() {
            return new Item(rule, dot + 1, from);
        }
    }

    /** Earley's rows, one a token, grown by the tokens that fit. */
    private static final class Chart {
        final List<LinkedHashSet<Item>> rows = new ArrayList<>();

        Chart() {
            LinkedHashSet<Item> first = new LinkedHashSet<>();
            addRulesOf("whole", 0, first);
            rows.add(first);
            closeLast();
        }

        private static void addRulesOf(String name, int from, Set<Item> items) {
            for (List<String> rule : RULES) {
                if (rule.get(0).equals(name)) {
                    items.add(new Item(rule, 1, from));
                }
            }
        }

        private void closeLast() {
            int here = rows.size() - 1;
            List<Item> work = new ArrayList<>(rows.get(here));
            for (int k = 0; k < work.size(); k++) {
                Item item = work.get(k);
                Set<Item> found = new LinkedHashSet<>();
                if (item.next() != null) {
                    addRulesOf(item.next(), here, found);
                } else {
                    for (Item waiting : rows.get(item.from())) {
                        if (item.rule().get(0).equals(waiting.next())) {
                            found.add(waiting.moved());
                        }
                    }
                }
                for (Item one : found) {
                    if (rows.get(here).add(one)) {
                        work.add(one);
                    }
                }
            }
        }

        boolean take(String terminal) {
            LinkedHashSet<Item> row = new LinkedHashSet<>();
            for (Item item : rows.get(rows.size() - 1)) {
                if (terminal.equals(item.next())) {
                    row.add(item.moved());
                }
            }
            if (row.isEmpty()) {
                return false;
            }
            rows.add(row);
            closeLast();
            return true;
        }

        boolean isWhole() {
            for (Item item : rows.get(rows.size() - 1)) {
                if (item.next() == null && item.from() == 0 && item.rule().get(0).equals("whole")) {
                    return true;
                }
            }
            return false;
        }
    }

    /** How many tokens fit; one more than there are when the text is right. */
    private static int fittingTokens(List<Token> tokens) {
        Chart chart = new Chart();
        for (int k = 0; k < tokens.size(); k++) {
            if (!chart.take(tokens.get(k).terminal())) {
                return k;
            }
        }
        return chart.isWhole() ? tokens.size() + 1 : tokens.size();
    }

    private static List<Token> carriedToAnEnd(List<Token> begun) {
        List<Token> all = new ArrayList<>(begun);
        Chart chart = new Chart();
        for (Token token : begun) {
            chart.take(token.terminal());
        }
        while (!chart.isWhole()) {
            for (String next : new String[] {";", "]", ")", "}", "1", "x", "(", "=", "{", "[", "int"}) {
                Token token = new Token(next, 1000 + all.size());
                if (chart.take(token.terminal())) {
                    all.add(token);
                    break;
                }
            }
        }
        return all;
    }

    /** The first token that makes more than twelve open, or a number above all tokens. */
    private int firstTooManyOpen() {
        int first = Integer.MAX_VALUE;
        for (Span span : spans) {
            int open = 1;
            for (Span other : spans) {
                if (other.from() < span.from() && span.from() < other.to()) {
                    open++;
                }
            }
            if (open > 12) {
                first = Math.min(first, span.from());
            }
        }
        return first;
    }

    /** Makes the tree of a right text, and notes what its tokens open. */
    private final class Trees {
        final List<Token> all;
        int at = 0;

        Trees(List<Token> all) {
            this.all = all;
        }

        String here() {
            return at < all.size() ? all.get(at).text() : "";
        }

        Token next() {
            return all.get(at++);
        }

        boolean took(String text) {
            if (here().equals(text)) {
                at++;
                return true;
            }
            return false;
        }

        Node whole() {
            List<Node> parts = new ArrayList<>();
            while (at < all.size()) {
                next();
                Token name = next();
                if (took("[")) {
                    Token length = next();
                    at += 2;
                    parts.add(new Node("array", name, List.of(new Node("number", length, List.of(), length.text())),
                            name.text()));
                } else {
                    parts.add(function(name));
                }
            }
            return new Node("whole", null, parts, "");
        }

        Node function(Token name) {
            List<Node> kids = new ArrayList<>();
            next();
            while (!took(")")) {
                took(",");
                next();
                Token parameter = next();
                kids.add(new Node("parameter", parameter, List.of(), parameter.text()));
            }
            kids.add(statement());
            return new Node("function", name, kids, name.text());
        }

        Node statement() {
            Token first = next();
            int start = at - 1;
            List<Node> kids = new ArrayList<>();
            switch (first.text()) {
                case "{":
                    while (!here().equals("}")) {
                        kids.add(statement());
                    }
                    spans.add(new Span(start, at));
                    next();
                    return new Node("block", first, kids, "");
                case "int":
                    Token name = next();
                    next();
                    kids.add(valueAndEnd());
                    return new Node("make", first, kids, name.text() + "@" + name.place());
                case "if":
                case "while":
                    kids.add(inBrackets());
                    kids.add(under(at - 1));
                    if (first.text().equals("if") && took("else")) {
                        kids.add(under(at - 1));
                    }
                    return new Node(first.text(), first, kids, "");
                case "return":
                    kids.add(valueAndEnd());
                    return new Node("return", first, kids, "");
                case "print":
                    kids.add(inBrackets());
                    next();
                    return new Node("print", first, kids, "");
                default:
                    at--;
                    return valueOrSetting();
            }
        }

        Node under(int opener) {
            Node node = statement();
            spans.add(new Span(opener, at));
            return node;
        }

        Node valueOrSetting() {
            Node value = level(0);
            if (took("=")) {
                List<Node> kids = new ArrayList<>(value.kids());
                kids.add(level(0));
                next();
                return new Node("set " + value.kind(), value.token(), kids, value.text());
            }
            next();
            return new Node("value", value.token(), List.of(value), "");
        }

        Node valueAndEnd() {
            Node value = level(0);
            next();
            return value;
        }

        Node inBrackets() {
            int start = at;
            next();
            Node value = level(0);
            spans.add(new Span(start, at));
            next();
            return value;
        }

        Node level(int strength) {
            if (strength == LEVELS.size()) {
                return one();
            }
            Node value = level(strength + 1);
            while (LEVELS.get(strength).contains(here())) {
                int start = at;
                Token sign = next();
                Node second = level(strength + 1);
                spans.add(new Span(start, at));
                value = new Node("two", sign, List.of(value, second), sign.text());
            }
            return value;
        }

        Node one() {
            int start = at;
            Token token = next();
            switch (token.terminal()) {
                case "-":
                case "!":
                case "~":
                    Node value = one();
                    spans.add(new Span(start, at));
                    return new Node("sign", token, List.of(value), token.text());
                case "NUMBER":
                    return new Node("number", token, List.of(), token.text());
                case "(":
                    at--;
                    return inBrackets();
                case "read":
                    spans.add(new Span(at, at + 1));
                    at += 2;
                    return new Node("read", token, List.of(), "");
                default:
                    if (here().equals("[")) {
                        return new Node("element", token, List.of(inBrackets()), token.text());
                    }
                    return here().equals("(") ? call(token) : new Node("variable", token, List.of(), token.text());
            }
        }

        Node call(Token name) {
            List<Node> kids = new ArrayList<>();
            int start = at;
            next();
            while (!here().equals(")")) {
                took(",");
                kids.add(level(0));
            }
            spans.add(new Span(start, at));
            next();
            return new Node("call", name, kids, name.text());
        }
    }

    private void checkNames() {
        makeGlobals();
        for (Node part : whole.kids()) {
            if (part.kind().equals("function")) {
                checkFunction(part);
            }
        }
        Node main = globals.get("main");
        if (main == null || !main.kind().equals("function") || main.kids().size() != 1) {
            wrongNames.add(text.length());
        }
        if (!wrongNames.isEmpty()) {
            refuse(4, wrongNames.first());
        }
    }

    private void makeGlobals() {
        int arrays = 0;
        for (Node part : whole.kids()) {
            boolean isArray = part.kind().equals("array");
            boolean tooMany = isArray ? arrays == 4 : functions == 8;
            if (isArray) {
                int length = Integer.parseInt(part.kid(0).text());
                if (length < 1 || length > 16) {
                    wrongNames.add(part.kid(0).token().place());
                }
            }
            if (tooMany || globals.containsKey(part.text())) {
                wrongNames.add(part.token().place());
                continue;
            }
            globals.put(part.text(), part);
            arrays += isArray ? 1 : 0;
            functions += isArray ? 0 : 1;
        }
    }

    private void checkFunction(Node function) {
        Set<String> own = new HashSet<>();
        List<Set<String>> blocks = new ArrayList<>();
        blocks.add(own);
        int last = function.kids().size() - 1;
        for (int k = 0; k < last; k++) {
            Node parameter = function.kid(k);
            if (k >= 4 || !own.add(parameter.text())) {
                wrongNames.add(parameter.token().place());
            }
        }
        for (Node statement : function.kid(last).kids()) {
            checkStatement(statement, blocks, true);
        }
    }

    private void checkStatement(Node node, List<Set<String>> blocks, boolean inBlock) {
        switch (node.kind()) {
            case "block":
                blocks.add(new HashSet<>());
                for (Node kid : node.kids()) {
                    checkStatement(kid, blocks, true);
                }
                blocks.remove(blocks.size() - 1);
                break;
            case "make":
                checkValue(node.kid(0), blocks);
                checkMaking(node, blocks, inBlock);
                break;
            case "if":
            case "while":
                checkValue(node.kid(0), blocks);
                for (Node kid : node.kids().subList(1, node.kids().size())) {
                    checkStatement(kid, blocks, false);
                }
                break;
            default:
                checkUse(node, blocks);
                for (Node kid : node.kids()) {
                    checkValue(kid, blocks);
                }
                break;
        }
    }

    private void checkMaking(Node node, List<Set<String>> blocks, boolean inBlock) {
        if (!inBlock) {
            wrongNames.add(node.token().place());
        }
        String[] nameAndPlace = node.text().split("@");
        int there = 0;
        for (Set<String> block : blocks) {
            there += block.size();
        }
        if (there >= 12 || !blocks.get(blocks.size() - 1).add(nameAndPlace[0])) {
            wrongNames.add(Integer.parseInt(nameAndPlace[1]));
        }
    }

    private void checkValue(Node node, List<Set<String>> blocks) {
        checkUse(node, blocks);
        for (Node kid : node.kids()) {
            checkValue(kid, blocks);
        }
    }

    private void checkUse(Node node, List<Set<String>> blocks) {
        boolean isVariable = false;
        for (Set<String> block : blocks) {
            isVariable |= block.contains(node.text());
        }
        Node global = globals.get(node.text());
        boolean right = true;
        switch (node.kind()) {
            case "variable":
            case "set variable":
                right = isVariable;
                break;
            case "element":
            case "set element":
                right = !isVariable && global != null && global.kind().equals("array");
                break;
            case "call":
                right = !isVariable && global != null && global.kind().equals("function")
                        && global.kids().size() == node.kids().size() + 1;
                break;
            default:
                break;
        }
        if (!right) {
            wrongNames.add(node.token().place());
        }
    }

    /** Ends a run: 1 TRAP, 2 SPENT. */
    private static final class Stop extends RuntimeException {
        private static final long serialVersionUID = 1L;
        final int state;

        Stop(int state) {
            super(null, null, false, false);
            this.state = state;
        }
    }

    /** One run of the tree. */
    final class Run {
        final List<Integer> output = new ArrayList<>();
        final Map<String, int[]> arrays = new LinkedHashMap<>();
        final List<Integer> input;
        int next = 0;
        int ticks = 0;
        int calls = 0;
        int state = 0;
        int result = 0;

        Run(List<Integer> input) {
            this.input = input;
            for (Node global : globals.values()) {
                if (global.kind().equals("array")) {
                    arrays.put(global.text(), new int[Integer.parseInt(global.kid(0).text())]);
                }
            }
            try {
                result = call(globals.get("main"), new int[0]);
            } catch (Stop stop) {
                state = stop.state;
            }
        }

        private void tick() {
            if (ticks == 400) {
                throw new Stop(2);
            }
            ticks++;
        }

        private int call(Node function, int[] values) {
            if (calls == 12) {
                throw new Stop(2);
            }
            tick();
            calls++;
            List<Map<String, Integer>> blocks = new ArrayList<>();
            blocks.add(new LinkedHashMap<>());
            for (int k = 0; k < values.length; k++) {
                blocks.get(0).put(function.kid(k).text(), values[k]);
            }
            Integer given = null;
            for (Node statement : function.kid(values.length).kids()) {
                given = given == null ? perform(statement, blocks) : given;
            }
            calls--;
            return given == null ? 0 : given;
        }

        /** What a statement returns, or null. */
        private Integer perform(Node node, List<Map<String, Integer>> blocks) {
            switch (node.kind()) {
                case "block":
                    blocks.add(new LinkedHashMap<>());
                    Integer given = null;
                    for (Node kid : node.kids()) {
                        given = given == null ? perform(kid, blocks) : given;
                    }
                    blocks.remove(blocks.size() - 1);
                    return given;
                case "make":
                    int made = value(node.kid(0), blocks);
                    blocks.get(blocks.size() - 1).put(node.text().split("@")[0], made);
                    return null;
                case "set variable":
                    int set = value(node.kid(0), blocks);
                    blockOf(node.text(), blocks).put(node.text(), set);
                    return null;
                case "set element":
                    int index = value(node.kid(0), blocks);
                    int element = value(node.kid(1), blocks);
                    arrays.get(node.text())[checked(index, node)] = element;
                    return null;
                case "if":
                    if (value(node.kid(0), blocks) != 0) {
                        return perform(node.kid(1), blocks);
                    }
                    return node.kids().size() > 2 ? perform(node.kid(2), blocks) : null;
                case "while":
                    return loop(node, blocks);
                case "return":
                    return value(node.kid(0), blocks);
                case "print":
                    int put = value(node.kid(0), blocks);
                    if (output.size() == 30) {
                        throw new Stop(1);
                    }
                    output.add(put);
                    return null;
                default:
                    value(node.kid(0), blocks);
                    return null;
            }
        }

        private Integer loop(Node node, List<Map<String, Integer>> blocks) {
            while (true) {
                tick();
                if (value(node.kid(0), blocks) == 0) {
                    return null;
                }
                Integer given = perform(node.kid(1), blocks);
                if (given != null) {
                    return given;
                }
            }
        }

        private Map<String, Integer> blockOf(String name, List<Map<String, Integer>> blocks) {
            int k = blocks.size() - 1;
            while (!blocks.get(k).containsKey(name)) {
                k--;
            }
            return blocks.get(k);
        }

        private int checked(int index, Node node) {
            if (index < 0 || index >= arrays.get(node.text()).length) {
                throw new Stop(1);
            }
            return index;
        }

        private int value(Node node, List<Map<String, Integer>> blocks) {
            switch (node.kind()) {
                case "number":
                    return Integer.parseInt(node.text());
                case "read":
                    return next < input.size() ? input.get(next++) : 0;
                case "variable":
                    return blockOf(node.text(), blocks).get(node.text());
                case "element":
                    return arrays.get(node.text())[checked(value(node.kid(0), blocks), node)];
                case "call":
                    int[] values = new int[node.kids().size()];
                    for (int k = 0; k < values.length; k++) {
                        values[k] = value(node.kid(k), blocks);
                    }
                    return call(globals.get(node.text()), values);
                case "sign":
                    int one = value(node.kid(0), blocks);
                    return node.text().equals("-") ? -one : node.text().equals("~") ? ~one : one == 0 ? 1 : 0;
                default:
                    return two(node, blocks);
            }
        }

        private int two(Node node, List<Map<String, Integer>> blocks) {
            long first = value(node.kid(0), blocks);
            if (node.text().equals("&&")) {
                return first != 0 && value(node.kid(1), blocks) != 0 ? 1 : 0;
            }
            if (node.text().equals("||")) {
                return first != 0 || value(node.kid(1), blocks) != 0 ? 1 : 0;
            }
            long second = value(node.kid(1), blocks);
            switch (node.text()) {
                case "+":
                    return (int) (first + second);
                case "-":
                    return (int) (first - second);
                case "*":
                    return (int) (first * second);
                case "/":
                    return second == 0 ? -1 : (int) (first / second);
                case "%":
                    return (int) (second == 0 ? first : first % second);
                case "<":
                    return first < second ? 1 : 0;
                case ">":
                    return first > second ? 1 : 0;
                case "<=":
                    return first <= second ? 1 : 0;
                case ">=":
                    return first >= second ? 1 : 0;
                case "==":
                    return first == second ? 1 : 0;
                default:
                    return first != second ? 1 : 0;
            }
        }
    }
}
