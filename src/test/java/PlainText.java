import java.util.ArrayList;
import java.util.HashSet;
import java.util.List;
import java.util.Set;
import java.util.TreeMap;

/** The CALENDAR's TEXT read by tokens, for PlainMeter. */
final class PlainText {
    private record Token(char kind, int place, String text) {
    }

    /** Ends the reading at the first FAULT. */
    private static final class Fault extends Exception {
        private static final long serialVersionUID = 1;
        private final int kind;
        private final int place;

        Fault(int kind, int place) {
            this.kind = kind;
            this.place = place;
        }
    }

    int fault;
    int faultPlace = -1;
    int lines;
    List<TreeMap<Integer, Integer>> tables = new ArrayList<>();
    int[] begins = {0, -1, -1, -1};
    int[][] weeks = new int[4][7];
    TreeMap<Integer, Integer> specials = new TreeMap<>();
    int[] prices;

    private final List<Token> tokens = new ArrayList<>();
    private final Set<String> told = new HashSet<>();
    private int at;

    PlainText(List<Integer> bytes) {
        for (int t = 0; t < 8; t++) {
            tables.add(new TreeMap<>());
        }
        StringBuilder text = new StringBuilder();
        for (int b : bytes) {
            text.append((char) b);
        }
        split(text.toString());
        try {
            while (peek().kind != 'e') {
                line();
                lines++;
            }
        } catch (Fault f) {
            fault = f.kind;
            faultPlace = f.place;
        }
    }

    private void split(String text) {
        var matcher = java.util.regex.Pattern.compile("[a-z]+|[0-9]+|[^ ]", java.util.regex.Pattern.DOTALL)
            .matcher(text);
        while (matcher.find()) {
            char c = matcher.group().charAt(0);
            char kind = c >= 'a' && c <= 'z' ? 'w' : c >= '0' && c <= '9' ? 'n' : c;
            // Signs that would be taken for a kind are none that can stand anywhere.
            tokens.add(new Token(kind, matcher.start(), matcher.group()));
        }
        tokens.add(new Token('e', text.length(), ""));
    }

    private Token peek() {
        return tokens.get(at);
    }

    private Token take(char kind) throws Fault {
        Token token = peek();
        if (token.kind != kind) {
            throw new Fault(1, token.place);
        }
        at++;
        return token;
    }

    private int number(int most) throws Fault {
        Token token = take('n');
        if (new java.math.BigInteger(token.text).compareTo(java.math.BigInteger.valueOf(most)) > 0) {
            throw new Fault(2, token.place);
        }
        return Integer.parseInt(token.text);
    }

    private int numberToldOnce(String what, int most) throws Fault {
        int place = peek().place;
        int number = number(most);
        if (!told.add(what + number)) {
            throw new Fault(3, place);
        }
        return number;
    }

    private void line() throws Fault {
        Token word = take('w');
        switch (word.text) {
            case "table":
                table(tables.get(numberToldOnce("table", 7)));
                break;
            case "season":
                int season = numberToldOnce("season", 3);
                begins[season] = number(364);
                for (int d = 0; d < 7; d++) {
                    weeks[season][d] = number(7);
                }
                break;
            case "special":
                if (specials.size() == 16) {
                    throw new Fault(4, word.place);
                }
                int day = numberToldOnce("special", 364);
                specials.put(day, number(7));
                break;
            case "price":
                if (prices != null) {
                    throw new Fault(3, word.place);
                }
                prices = new int[] {number(100), number(100), number(100), number(100)};
                break;
            default:
                throw new Fault(1, word.place);
        }
        take(';');
    }

    private void table(TreeMap<Integer, Integer> table) throws Fault {
        while (peek().kind == 'n') {
            int hourPlace = peek().place;
            int hour = number(23);
            if (table.size() == 6) {
                throw new Fault(4, hourPlace);
            }
            take(':');
            int minutePlace = peek().place;
            int second = hour * 3600 + number(59) * 60;
            if (table.containsKey(second)) {
                throw new Fault(3, minutePlace);
            }
            table.put(second, number(3));
        }
    }
}
