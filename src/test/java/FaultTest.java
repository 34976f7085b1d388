import java.util.ArrayList;
import java.util.HashSet;
import java.util.List;
import java.util.Random;
import java.util.Set;

/** Spoilt texts: their faults as the class tells them, held against a second reader that goes by tokens. */
public final class FaultTest {
    /** A token: a number (its figures), or one letter. */
    private record Token(int at, String text) {
        boolean isNumber() {
            return Character.isDigit(text.charAt(0)) && text.charAt(0) < 128;
        }
    }

    /** A fault that ends the reading. */
    private static final class Fault extends Exception {
        private static final long serialVersionUID = 1L;
        final int number;
        final int at;

        Fault(int number, int at) {
            this.number = number;
            this.at = at;
        }
    }

    private final List<Token> tokens = new ArrayList<>();
    private final Set<String> taken = new HashSet<>();
    private final int[] clauses = new int[128];
    private int next = 0;
    private int w;
    private int h;

    private FaultTest(String text) {
        for (int i = 0; i < text.length(); i++) {
            int from = i;
            while (i < text.length() && text.charAt(i) >= '0' && text.charAt(i) <= '9') {
                i++;
            }
            if (i > from) {
                tokens.add(new Token(from, text.substring(from, i)));
            }
            if (i < text.length() && text.charAt(i) != ' ') {
                tokens.add(new Token(i, text.substring(i, i + 1)));
            }
        }
        tokens.add(new Token(text.length(), "end"));
    }

    private Token take() {
        Token t = tokens.get(next);
        if (!t.text.equals("end")) {
            next++;
        }
        return t;
    }

    /** The token of a number of these bounds. */
    private Token number(int low, int high) throws Fault {
        Token t = take();
        if (!t.isNumber()) {
            throw new Fault(1, t.at);
        }
        if (t.text.length() > 3 || Integer.parseInt(t.text) < low || Integer.parseInt(t.text) > high) {
            throw new Fault(2, t.at);
        }
        return t;
    }

    private int value(int low, int high) throws Fault {
        return Integer.parseInt(number(low, high).text);
    }

    private void sign(String s) throws Fault {
        Token t = take();
        if (!t.text.equals(s)) {
            throw new Fault(1, t.at);
        }
    }

    private void once(String key, int at) throws Fault {
        if (!taken.add(key)) {
            throw new Fault(4, at);
        }
    }

    private int read() throws Fault {
        while (!tokens.get(next).text.equals("end")) {
            Token word = take();
            int limit = switch (word.text) {
                case "g" -> 1;
                case "c" -> 12;
                case "m" -> 3;
                case "h", "k" -> 6;
                case "w" -> 5;
                case "d" -> 4;
                default -> throw new Fault(1, word.at);
            };
            if (w == 0 && !word.text.equals("g")) {
                throw new Fault(1, word.at);
            }
            if (++clauses[word.text.charAt(0)] > limit) {
                throw new Fault(3, word.at);
            }
            clause(word.text);
            sign(";");
        }
        return w * h;
    }

    private void clause(String word) throws Fault {
        if (word.equals("g")) {
            w = value(1, 6);
            Token t = number(1, 6);
            h = Integer.parseInt(t.text);
            if (w * h > 24) {
                throw new Fault(2, t.at);
            }
            value(0, 99);
            value(0, 9);
        } else if (word.equals("m")) {
            value(0, 8);
            value(0, 8);
            value(0, 18);
            sign(",");
            value(0, 18);
            for (int i = 3; i <= 9 && tokens.get(next).text.equals(","); i++) {
                take();
                value(0, 18);
            }
        } else if (word.equals("d")) {
            int a = value(0, 300);
            Token t = number(0, 300);
            if (Integer.parseInt(t.text) < a) {
                throw new Fault(4, t.at);
            }
        } else {
            place(word);
        }
    }

    private void place(String word) throws Fault {
        int x = value(0, w - 1);
        Token t = number(0, h - 1);
        String key = word + x + " " + Integer.parseInt(t.text);
        if (word.equals("k")) {
            Token d = number(0, 1);
            boolean east = Integer.parseInt(d.text) == 0;
            if (east ? x + 1 >= w : Integer.parseInt(t.text) + 1 >= h) {
                throw new Fault(2, d.at);
            }
            once(key + east, d.at);
            value(0, 60);
            return;
        }
        once(key, t.at);
        value(0, 99);
        if (word.equals("c")) {
            value(0, 9);
        }
    }

    private static void compare(String text) {
        int answer;
        int at = Check.NONE;
        try {
            answer = new FaultTest(text).read();
        } catch (Fault f) {
            answer = -10 - f.number;
            at = f.at;
        }
        TidedGround g = Check.fed(text);
        Check.due("ground() of '" + text + "'", g.ground(), answer);
        Check.due("fault() of '" + text + "'", g.fault(), at);
    }

    private static String spoil(Random r, String text) {
        StringBuilder s = new StringBuilder(text);
        String signs = "0123456789;,  gcmhkwdx";
        for (int n = 1 + r.nextInt(3); n > 0 && s.length() > 0; n--) {
            int at = r.nextInt(s.length());
            char sign = signs.charAt(r.nextInt(signs.length()));
            switch (r.nextInt(5)) {
                case 0 -> s.setCharAt(at, sign);
                case 1 -> s.insert(at, sign);
                case 2 -> s.deleteCharAt(at);
                case 3 -> s.setLength(at);
                default -> doubleClause(s, at);
            }
        }
        return s.length() > 250 ? s.substring(0, 250) : s.toString();
    }

    private static void doubleClause(StringBuilder s, int at) {
        int from = s.lastIndexOf(";", at) + 1;
        int to = s.indexOf(";", at);
        if (to > 0 && to >= from) {
            s.append(s.substring(from, to + 1));
        }
    }

    public static void main(String[] args) {
        int runs = args.length > 0 ? Integer.parseInt(args[0]) : 20000;
        Random r = new Random(1);
        for (int i = 0; i < runs; i++) {
            String text = new Oracle(r).text;
            compare(text);
            compare(spoil(r, text));
        }
        Check.end();
    }
}
