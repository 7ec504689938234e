import java.util.Random;

/** Pseudo-random texts of programs, sound ones and others. */
final class Texts {
    private static final String[] WORDS = {"set", "add", "sub", "move", "read", "write", "stop", "go", "if",
        "a", "b", "c", "d", "e", "ab", "0", "1", "7", "8", "50", "51", "99", "100", "007", ";", "<", "=", "A", "-", "\t"};

    private final Random random;
    private StringBuilder text = new StringBuilder();

    Texts(Random random) {
        this.random = random;
    }

    String next() {
        text = new StringBuilder();
        switch (random.nextInt(8)) {
            case 0: jumble(); break;
            case 1: anything(); spoil(); break;
            case 2: anything(); break;
            case 3: correlated(1); spoil(); break;
            case 4: case 5: correlated(1); break;
            default: correlated(2); break;
        }
        return text.toString();
    }

    private int upTo(int top) {
        return random.nextInt(top + 1);
    }

    private String letter(int variables) {
        return String.valueOf((char) ('a' + random.nextInt(variables)));
    }

    private void jumble() {
        for (int left = 1 + random.nextInt(12); left > 0; left--) {
            text.append(WORDS[random.nextInt(WORDS.length)]).append(random.nextInt(3) == 0 ? "" : " ");
        }
    }

    private void spoil() {
        if (text.length() > 0) {
            int at = random.nextInt(text.length());
            String odd = random.nextInt(3) == 0 ? "" : WORDS[random.nextInt(WORDS.length)];
            text.replace(at, Math.min(text.length(), at + random.nextInt(3)), odd);
        }
    }

    private void anything() {
        int blocks = 1 + random.nextInt(random.nextInt(5) == 0 ? 9 : 7);
        for (int b = 0; b < blocks; b++) {
            for (int left = random.nextInt(random.nextInt(8) == 0 ? 6 : 3); left > 0; left--) {
                act(4);
            }
            int kind = random.nextInt(6);
            if (kind == 0) {
                text.append("stop;");
            } else if (kind == 1) {
                text.append("go ").append(random.nextInt(blocks)).append(";");
            } else {
                test(4, random.nextInt(blocks), random.nextInt(blocks));
            }
        }
    }

    /** Tests of a few variables that were read, mostly leading onwards: many edges can be threaded. */
    private void correlated(int variables) {
        int blocks = 4 + random.nextInt(5);
        for (int b = 0; b < blocks; b++) {
            if (b == 0) {
                text.append(variables == 1 ? "read a " : "read a read b ");
            } else if (random.nextInt(4) == 0) {
                act(variables);
            }
            if (b == blocks - 1) {
                text.append("write a stop;");
            } else {
                test(variables, target(b, blocks), target(b, blocks));
            }
        }
    }

    private int target(int b, int blocks) {
        return random.nextInt(8) == 0 ? random.nextInt(blocks) : b + 1 + random.nextInt(Math.min(3, blocks - b - 1));
    }

    private void act(int variables) {
        int kind = random.nextInt(6);
        text.append(WORDS[kind]).append(' ').append(letter(variables));
        if (kind < 3) {
            text.append(random.nextBoolean() ? " " : "").append(upTo(random.nextBoolean() ? 50 : 3));
        } else if (kind == 3) {
            text.append(' ').append(letter(variables));
        }
        text.append(' ');
    }

    private void test(int variables, int first, int second) {
        String x = random.nextInt(3) == 0 ? letter(variables) : String.valueOf(upTo(50));
        text.append("if ").append(letter(variables)).append(random.nextInt(3) == 0 ? "=" : "<").append(x)
            .append(' ').append(first).append(' ').append(second).append(';');
    }
}
