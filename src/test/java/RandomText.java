import java.util.Random;

/** Texts of commands, most of them right, some with a fault put in. */
final class RandomText {
    private static final String[] OPTIONS = {"boost", "decay", "factor", "late", "limit", "strict"};
    private static final int[] MOST = {200, 200, 16, 9, 9, 1};
    private static final String SIGNS = "boostdecayfctrlimevhpwny=,;()0123456789ci!~AZ";

    private RandomText() {
    }

    static String make(Random random) {
        StringBuilder text = new StringBuilder();
        int commands = 1 + random.nextInt(4);
        for (int k = 0; k < commands; k++) {
            text.append(command(random));
        }
        for (int fault = random.nextInt(5); fault == 0; fault = random.nextInt(2)) {
            int place = random.nextInt(text.length() + 1);
            char sign = SIGNS.charAt(random.nextInt(SIGNS.length()));
            int kind = random.nextInt(4);
            if (kind == 0) {
                text.insert(place, sign);
            } else if (kind == 1) {
                text.setLength(place);
            } else if (place < text.length() && kind == 2) {
                text.setCharAt(place, sign);
            } else if (place < text.length()) {
                text.deleteCharAt(place);
            }
        }
        return text.toString();
    }

    private static String command(Random random) {
        int kind = random.nextInt(8);
        if (kind < 3) {
            int option = random.nextInt(6);
            return OPTIONS[option] + "=" + number(random, option == 4 ? 1 : 0, MOST[option]) + ";";
        }
        if (kind == 3) {
            return "level" + random.nextInt(4) + "=" + number(random, 1, 20) + "," + number(random, 1, 40) + ","
                    + number(random, 0, 1) + ";";
        }
        if (kind == 4) {
            return "share" + number(random, 0, 3) + "=" + number(random, 1, 9) + ";";
        }
        return "spawn" + number(random, 0, 3) + number(random, 0, 1) + "=" + program(random, 0) + ";";
    }

    private static String program(Random random, int depth) {
        StringBuilder program = new StringBuilder();
        int units = 1 + random.nextInt(3);
        for (int k = 0; k < units; k++) {
            if (depth < 4 && random.nextInt(3) == 0) {
                program.append('(').append(program(random, depth + 1)).append(')').append(number(random, 1, 9));
            } else {
                program.append('c').append(number(random, 1, random.nextBoolean() ? 4 : 30));
                int giveUp = random.nextInt(3);
                program.append(giveUp == 0 ? "" : giveUp == 1 ? "y" : "i" + number(random, 1, 30));
            }
        }
        return program.toString();
    }

    private static int number(Random random, int least, int most) {
        int pick = random.nextInt(80);
        if (pick == 0) {
            return most + 1 + random.nextInt(3) * 1000;
        }
        return pick == 1 ? 0 : least + random.nextInt(most - least + 1);
    }
}
