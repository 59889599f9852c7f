import java.util.Random;

/** Texts of the CALENDAR: good ones, and ones with something wrong in them. */
final class RandomText {
    private final Random random;
    private final StringBuilder text = new StringBuilder();
    private final boolean careful;

    private RandomText(Random random) {
        this.random = random;
        this.careful = random.nextBoolean();
    }

    static String write(Random random) {
        RandomText t = new RandomText(random);
        int lines = random.nextInt(4) == 0 ? 20 : random.nextInt(7);
        for (int k = 0; k < lines; k++) {
            t.line(k);
        }
        if (random.nextInt(3) == 0) {
            t.spoil();
        }
        t.blanks();
        return t.text.substring(0, Math.min(300, t.text.length()));
    }

    private void line(int k) {
        blanks();
        int kind = random.nextInt(8);
        if (kind < 2) {
            word("table");
            number(careful ? k % 8 : random.nextInt(8), 7);
            int switches = random.nextInt(40) == 0 ? 7 : random.nextInt(4);
            for (int s = 0; s < switches; s++) {
                number(careful ? s * 3 + random.nextInt(3) : random.nextInt(24), 23);
                sign(':');
                number(random.nextInt(3) * 30, 59);
                number(random.nextInt(4), 3);
            }
        } else if (kind == 2) {
            word("season");
            number(careful ? k % 4 : random.nextInt(4), 3);
            number(random.nextInt(365), 364);
            for (int d = 0; d < 7; d++) {
                number(random.nextInt(8), 7);
            }
        } else if (kind == 3 && random.nextInt(3) == 0) {
            word("price");
            for (int t = 0; t < 4; t++) {
                number(random.nextInt(101), 100);
            }
        } else {
            word("special");
            number(careful ? k * 10 + random.nextInt(10) : random.nextInt(50), 364);
            number(random.nextInt(8), 7);
        }
        sign(';');
    }

    private void blanks() {
        while (random.nextInt(12) == 0) {
            text.append(' ');
        }
    }

    private void word(String word) {
        text.append(word);
    }

    private void sign(char sign) {
        blanks();
        text.append(sign);
    }

    private void number(int number, int most) {
        char last = text.charAt(text.length() - 1);
        if (last >= '0' && last <= '9' || random.nextBoolean()) {
            text.append(' ');
        }
        blanks();
        if (random.nextInt(20) == 0) {
            text.append("00");
        }
        text.append(random.nextInt(careful ? 2000 : 100) == 0 ? most + 1 : Math.min(number, most));
    }

    private void spoil() {
        if (text.length() == 0) {
            text.append((char) random.nextInt(256));
            return;
        }
        int at = random.nextInt(text.length());
        switch (random.nextInt(4)) {
            case 0: text.deleteCharAt(at); break;
            case 1: text.setLength(at); break;
            case 2: text.setCharAt(at, (char) random.nextInt(256)); break;
            default: text.insert(at, ";: 7az99999999999".charAt(random.nextInt(17))); break;
        }
    }
}
