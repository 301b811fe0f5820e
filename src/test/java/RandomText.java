import java.util.Random;

/** Texts of plans and charts by their grammar, some of them spoiled, for the random runs. */
final class RandomText {
    private static final int MOST_BYTES = 500;

    private final Random random;

    RandomText(Random random) {
        this.random = random;
    }

    // ---- plans

    String plan() {
        StringBuilder text = new StringBuilder();
        steps(text, 0, random.nextInt(one(3) ? 40 : 12), range());
        return spoil(text);
    }

    private void steps(StringBuilder text, int depth, int count, int range) {
        for (int i = 0; i < count; i++) {
            blank(text);
            switch (random.nextInt(11)) {
                case 0, 1, 2, 3 -> word(text, "push").append(key(range));
                case 4, 5, 6 -> text.append("pop");
                case 7, 8 -> word(text, "less").append(item()).append(' ').append(gap()).append(key(range));
                case 9 -> word(text, "drop").append(item());
                default -> again(text, depth, range);
            }
            blank(text);
            text.append(';');
        }
        blank(text);
    }

    /** Now and then a fourth within three others, which is a fault. */
    private void again(StringBuilder text, int depth, int range) {
        if (depth == 3 && !one(3)) {
            text.append("pop");
            return;
        }
        word(text, "again").append(number(random.nextInt(one(4) ? 51 : 5), 50));
        blank(text);
        text.append('[');
        if (depth < 3 && one(3)) {
            again(text, depth + 1, range);
            text.append(';');
        }
        steps(text, depth + 1, random.nextInt(5), range);
        text.append(']');
    }

    private String item() {
        return number(random.nextInt(one(6) ? 200 : 12), 199);
    }

    // ---- charts

    /** Edges mostly, or events and rules mostly, or all of them. */
    String chart() {
        StringBuilder text = new StringBuilder();
        int lines = 1 + random.nextInt(50);
        int sort = random.nextInt(3);
        int range = range();
        int nodes = 2 + random.nextInt(15);
        for (int i = 0; i < lines && (text.length() < 470 || one(5)); i++) {
            blank(text);
            switch (sort == 0 ? 0 : sort == 1 ? 1 + random.nextInt(2) : random.nextInt(3)) {
                case 0 -> word(text, "edge").append(number(random.nextInt(nodes), 15)).append(' ')
                        .append(number(random.nextInt(nodes), 15)).append(' ').append(gap()).append(key(range));
                case 1 -> word(text, "event").append(letter()).append(gap()).append(key(range));
                default -> word(text, "rule").append(letter()).append(gap()).append(key(range)).append(gap())
                        .append(letter());
            }
            blank(text);
            text.append(';');
        }
        return spoil(text);
    }

    private String letter() {
        if (one(150)) {
            String[] others = {"I", "AB", "Aa", "a", "@", "Z", "`", ""};
            return others[random.nextInt(others.length)];
        }
        return String.valueOf((char) ('A' + random.nextInt(one(2) ? 2 : 8)));
    }

    // ---- what both have

    private int range() {
        return one(2) ? 20 : 1 << random.nextInt(30);
    }

    private String key(int range) {
        return number(one(40) ? 1_000_000_000 - random.nextInt(2) : random.nextInt(range), 1_000_000_000);
    }

    /** The number, now and then with zeros ahead of it, or one beyond the bound instead. */
    private String number(int value, int most) {
        if (one(120)) {
            String[] beyond = {"9999999999", "4294967296", "18446744073709551616", "1" + "0".repeat(30)};
            return one(2) ? Integer.toString(most + 1) : beyond[random.nextInt(beyond.length)];
        }
        return one(20) ? "0".repeat(1 + random.nextInt(12)) + value : Integer.toString(value);
    }

    private StringBuilder word(StringBuilder text, String word) {
        return text.append(word).append(gap());
    }

    private String gap() {
        return one(3) ? "" : one(6) ? "  " : " ";
    }

    private void blank(StringBuilder text) {
        if (one(6)) {
            text.append(' ');
        }
    }

    /** Now and then something is left out, put in or cut off; no longer than the tape. */
    private String spoil(StringBuilder text) {
        cut(text);
        while (text.length() > 0 && one(4)) {
            int at = random.nextInt(text.length());
            String signs = " ;[]0159AHIZaz/:@`{" + (char) 0 + (char) 9 + (char) 10 + (char) 160 + (char) 200 + (char) 255;
            char sign = signs.charAt(random.nextInt(signs.length()));
            switch (random.nextInt(4)) {
                case 0 -> text.deleteCharAt(at);
                case 1 -> text.setCharAt(at, sign);
                case 2 -> text.insert(at, sign);
                default -> text.setLength(at);
            }
        }
        cut(text);
        return text.toString();
    }

    private static void cut(StringBuilder text) {
        text.setLength(Math.min(text.length(), MOST_BYTES));
    }

    private boolean one(int of) {
        return random.nextInt(of) == 0;
    }
}
