import java.util.ArrayList;
import java.util.HashMap;
import java.util.List;
import java.util.Map;
import java.util.regex.Matcher;
import java.util.regex.Pattern;

/** A second reading of section II, written another way than the class: trees, exceptions, the library. */
final class PlainText {
    /** What a law may look at. */
    interface View {
        long name(String name);

        long warm(long house);
    }

    interface Sum {
        long at(View view);
    }

    interface Ask {
        boolean at(View view);
    }

    static final class Fault extends Exception {
        private static final long serialVersionUID = 1;
        final int what;
        final int place;

        Fault(int what, int place) {
            this.what = what;
            this.place = place;
        }
    }

    static final class Clause {
        final String word;
        final int[] numbers;

        Clause(String word, int... numbers) {
            this.word = word;
            this.numbers = numbers;
        }
    }

    final List<Clause> clauses = new ArrayList<>();
    final Map<String, Sum> laws = new HashMap<>();

    private static final class Token {
        final String sign;
        final int place;

        Token(String sign, int place) {
            this.sign = sign;
            this.place = place;
        }

        boolean isNumber() {
            return !sign.isEmpty() && Character.isDigit(sign.charAt(0)) && sign.charAt(0) < 128;
        }

        int number() {
            String plain = sign.replaceFirst("^0+(?=.)", "");
            return plain.length() > 4 ? 10000 : Integer.parseInt(plain);
        }
    }

    private static final Pattern TOKEN = Pattern.compile("[A-Za-z]+|[0-9]+|<=|>=|.", Pattern.DOTALL);
    private static final List<String> NAMES =
            List.of("hour", "bell", "wind", "who", "wood", "fire", "heat", "near", "purse");
    private static final List<String> COMPARE = List.of("<", "<=", ">", ">=", "=", "#");

    private final List<Token> tokens = new ArrayList<>();
    private int next = 0;
    private String law = "";

    PlainText(String tape) throws Fault {
        Matcher matcher = TOKEN.matcher(tape);
        while (matcher.find()) {
            if (!matcher.group().equals(" ") && !matcher.group().equals("\n")) {
                tokens.add(new Token(matcher.group(), matcher.start()));
            }
        }
        tokens.add(new Token("", tape.length()));
        while (!here().sign.isEmpty()) {
            readClause();
        }
    }

    private Token here() {
        return tokens.get(next);
    }

    private Fault fault(int what) {
        return new Fault(what, here().place);
    }

    private void expect(String sign) throws Fault {
        if (!here().sign.equals(sign)) {
            throw fault(1);
        }
        next++;
    }

    private int number(int least, int most) throws Fault {
        if (!here().isNumber()) {
            throw fault(1);
        }
        int number = here().number();
        if (number < least || number > most) {
            throw fault(2);
        }
        next++;
        return number;
    }

    private void readClause() throws Fault {
        String word = here().sign;
        if (!List.of("cools", "spreads", "fine", "house", "street", "light", "cover", "open", "fetch", "quench",
                "warden", "hour").contains(word)) {
            throw fault(1);
        }
        if (laws.containsKey(word)) {
            throw fault(4);
        }
        if (clauses.size() == 24) {
            throw fault(6);
        }
        next++;
        if (word.equals("cools") || word.equals("spreads") || word.equals("fine")) {
            law = word;
            laws.put(word, sum(0));
            clauses.add(new Clause(word));
        } else if (word.equals("house")) {
            int wood = number(0, 9);
            expect("coins");
            clauses.add(new Clause(word, wood, number(0, 9999)));
        } else if (word.equals("street")) {
            int one = number(0, 7);
            expect("to");
            int other = number(0, 7);
            expect("of");
            clauses.add(new Clause(word, one, other, number(0, 99)));
        } else if (word.equals("fetch")) {
            int house = number(0, 7);
            expect("from");
            clauses.add(new Clause(word, house, number(0, 7)));
        } else if (word.equals("hour")) {
            clauses.add(new Clause(word, number(1, 60)));
        } else {
            clauses.add(new Clause(word, number(0, 7)));
        }
        expect(";");
    }

    private static long held(long value) {
        return value > 1000000 ? 1000000 : value < -1000000 ? -1000000 : value;
    }

    private Sum sum(int around) throws Fault {
        Sum left = product(around);
        while (here().sign.equals("+") || here().sign.equals("-")) {
            boolean plus = here().sign.equals("+");
            next++;
            Sum first = left;
            Sum second = product(around);
            left = v -> held(plus ? first.at(v) + second.at(v) : first.at(v) - second.at(v));
        }
        return left;
    }

    private Sum product(int around) throws Fault {
        Sum left = one(around);
        while (here().sign.equals("*") || here().sign.equals("/")) {
            boolean times = here().sign.equals("*");
            next++;
            Sum first = left;
            Sum second = one(around);
            left = v -> {
                long a = first.at(v);
                long b = second.at(v);
                return times ? held(a * b) : b == 0 ? 0 : a / b;
            };
        }
        return left;
    }

    private void opens(int around) throws Fault {
        if (around == 8) {
            throw fault(3);
        }
        next++;
    }

    private Sum one(int around) throws Fault {
        Token token = here();
        if (token.isNumber()) {
            long number = number(0, 9999);
            return v -> number;
        }
        if (NAMES.contains(token.sign)) {
            if (token.sign.equals("purse") && !law.equals("fine")) {
                throw fault(5);
            }
            next++;
            return v -> v.name(token.sign);
        }
        switch (token.sign) {
            case "(": {
                opens(around);
                Sum inner = sum(around + 1);
                expect(")");
                return inner;
            }
            case "-": {
                opens(around);
                Sum inner = one(around + 1);
                return v -> held(-inner.at(v));
            }
            case "warm": {
                opens(around);
                Sum inner = one(around + 1);
                return v -> v.warm(inner.at(v));
            }
            case "if": {
                opens(around);
                Ask ask = either(around + 1);
                expect("then");
                Sum so = sum(around + 1);
                expect("else");
                Sum not = sum(around + 1);
                expect("end");
                return v -> ask.at(v) ? so.at(v) : not.at(v);
            }
            default:
                throw fault(1);
        }
    }

    private Ask either(int around) throws Fault {
        Ask left = both(around);
        while (here().sign.equals("or")) {
            next++;
            Ask first = left;
            Ask second = both(around);
            left = v -> first.at(v) | second.at(v);
        }
        return left;
    }

    private Ask both(int around) throws Fault {
        Ask left = ask(around);
        while (here().sign.equals("and")) {
            next++;
            Ask first = left;
            Ask second = ask(around);
            left = v -> first.at(v) & second.at(v);
        }
        return left;
    }

    private Ask ask(int around) throws Fault {
        String sign = here().sign;
        if (sign.equals("not")) {
            opens(around);
            Ask inner = ask(around + 1);
            return v -> !inner.at(v);
        }
        if (sign.equals("odd") || sign.equals("even")) {
            next++;
            Sum inner = sum(around);
            return v -> inner.at(v) % 2 != 0 == sign.equals("odd");
        }
        Sum left = sum(around);
        String compare = here().sign;
        if (!COMPARE.contains(compare)) {
            throw fault(1);
        }
        next++;
        Sum right = sum(around);
        return v -> compared(compare, Long.compare(left.at(v), right.at(v)));
    }

    private static boolean compared(String sign, int order) {
        switch (sign) {
            case "<": return order < 0;
            case "<=": return order <= 0;
            case ">": return order > 0;
            case ">=": return order >= 0;
            case "=": return order == 0;
            default: return order != 0;
        }
    }
}
