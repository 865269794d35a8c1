import java.util.function.Function;
import java.util.function.Supplier;

/** Promises 6 to 8, and what the description says of the buffer and the form of a text. */
final class TextCases {
    private static final int DESCRIPTION = Sentences.DESCRIPTION;
    private static final String[] WORDS = {"boost", "decay", "factor", "late", "limit", "strict", "level", "share", "spawn"};
    private static final int[] LEAST = {0, 0, 0, 0, 1, 0};
    private static final int[] MOST = {200, 200, 16, 9, 9, 1};

    private TextCases() {
    }

    static void tell(Sentences s) {
        s.test(DESCRIPTION, "Text. A buffer holds at most 60 characters.", TextCases::fullBuffer);
        append(s);
        execute(s);
        errorPosition(s);
        commands(s);
        programs(s);
        meanings(s);
        TextErrorCases.tell(s);
    }

    private static void fullBuffer() {
        FeedbackQueueSimulator x = new FeedbackQueueSimulator();
        for (int k = 1; k <= 60; k++) {
            Check.due("characters", x.append('a'), k);
        }
        Check.due("none more", x.append(0), 60);
        Refusal.check(Refusal.STATE, () -> filled(60), y -> y.append('a'));
        Check.due("60 characters are read", States.FULL.get().execute(), 8);
    }

    private static void append(Sentences s) {
        s.test(6, "Appends up to four characters to the buffer: the bytes of an int from the most significant one to the least"
                + " significant one, where bytes that are 0 are skipped.", TextCases::bytes);
        s.test(6, "packed: the characters", () -> {
            // Each byte that is allowed and each that is not, at each of the four places.
            for (int shift = 0; shift < 32; shift += 8) {
                for (int sign = 0; sign < 256; sign++) {
                    int packed = sign << shift;
                    FeedbackQueueSimulator x = new FeedbackQueueSimulator();
                    boolean fine = sign == 0 || sign >= 33 && sign <= 126;
                    Check.due("byte " + sign + " at " + shift, Refusal.thrown(x, y -> y.append(packed)),
                            fine ? "the answer " + (sign == 0 ? 0 : 1) : Refusal.ARGUMENT.getName());
                    Check.due("characters behind it", x.append(0), fine && sign != 0 ? 1 : 0);
                }
            }
        });
        s.test(6, "Returns the number of characters in the buffer.", () -> {
            FeedbackQueueSimulator x = new FeedbackQueueSimulator();
            Check.due("empty", x.append(0), 0);
            Check.due("one", x.append('!' << 24), 1);
            Check.due("five", x.append('!' << 24 | '~' << 16 | '!' << 8 | '~'), 5);
            Check.due("seven", x.append('!' << 16 | '~'), 7);
        });
        s.test(6, "Throws IllegalArgumentException if a byte that is not 0 is not from 33 to 126", () -> {
            int[] wrong = {1, 31, 32, 127, 128, 129, 254, 255};
            for (Supplier<FeedbackQueueSimulator> state : States.ALL) {
                for (int sign : wrong) {
                    for (int shift = 0; shift < 32; shift += 8) {
                        // The others are right: nothing of them may be appended.
                        int packed = ('a' << 24 | 'b' << 16 | 'c' << 8 | 'd') & ~(255 << shift) | sign << shift;
                        Refusal.check(Refusal.ARGUMENT, state, x -> x.append(packed));
                    }
                }
                Refusal.check(Refusal.ARGUMENT, state, x -> x.append(-1));
                Refusal.check(Refusal.ARGUMENT, state, x -> x.append(Integer.MIN_VALUE));
                Refusal.check(Refusal.ARGUMENT, state, x -> x.append(Integer.MAX_VALUE));
            }
        });
        s.test(6, "Throws IllegalStateException if there would be more than 60 characters", () -> {
            int four = 'a' << 24 | 'b' << 16 | 'c' << 8 | 'd';
            Check.due("56 and 4", filled(56).append(four), 60);
            Check.due("57 and 3", filled(57).append(four & 0x00ffffff), 60);
            Check.due("59 and 1", filled(59).append('z' << 8), 60);
            Check.due("60 and 0", filled(60).append(0), 60);
            for (int k = 57; k <= 60; k++) {
                int length = k;
                Refusal.check(Refusal.STATE, () -> filled(length), x -> x.append(four));
            }
            Refusal.check(Refusal.STATE, () -> filled(59), x -> x.append('a' << 24 | 'b'));
            Refusal.check(Refusal.STATE, () -> filled(60), x -> x.append('a' << 24));
        });
    }

    private static void bytes() {
        // The same command in each way that zeros can stand between its characters.
        String text = "late=4;";
        for (int zeros = 0; zeros < 15; zeros++) {
            FeedbackQueueSimulator x = new FeedbackQueueSimulator();
            int from = 0;
            while (from < text.length()) {
                int packed = 0;
                for (int place = 0; place < 4; place++) {
                    boolean skip = (zeros >> place & 1) == 1 || from >= text.length();
                    packed = packed << 8 | (skip ? 0 : text.charAt(from));
                    from += skip ? 0 : 1;
                }
                Check.due("characters", x.append(packed), from);
            }
            Check.due("in this order", x.execute(), 1);
            Check.due("in this order", x.setOption(3, 1), 4);
        }
        FeedbackQueueSimulator none = new FeedbackQueueSimulator();
        Check.due("four zeros", none.append(0), 0);
    }

    private static void execute(Sentences s) {
        s.test(7, "Reads the text in the buffer and executes its commands in their order.", () -> {
            FeedbackQueueSimulator x = new FeedbackQueueSimulator();
            Check.good(x, "late=1;late=2;late=3;late=9;", 4);
            Check.due("the last one counts", x.setOption(3, 1), 9);
            Check.good(x, "spawn30=c1;spawn21=c1;spawn10=c1;", 3);
            for (int p = 0; p < 3; p++) {
                Check.due("number", x.property(p, 0), 3 - p);
            }
        });
        s.test(7, "The buffer is empty afterwards, also if an exception is thrown; if there is an error in the text, no command"
                + " is executed.", TextCases::errorsLeaveTheMachine);
        s.test(7, "Returns the number of commands.", () -> {
            StringBuilder text = new StringBuilder();
            for (int commands = 1; commands <= 8; commands++) {
                text.append("late=").append(commands).append(';');
                FeedbackQueueSimulator x = new FeedbackQueueSimulator();
                Check.good(x, text.toString(), commands);
            }
        });
        s.test(7, "Throws IllegalArgumentException if there is an error in the text", () -> {
            for (Supplier<FeedbackQueueSimulator> state : States.ALL) {
                for (String text : new String[] {"", "late=10;", "x", "late=1;late=2;late=3;late=4;late=5;late=6;late=7;late"}) {
                    FeedbackQueueSimulator x = emptied(state);
                    Check.put(x, text);
                    Check.due("with " + text, Refusal.thrown(x, FeedbackQueueSimulator::execute), Refusal.ARGUMENT.getName());
                }
            }
        });
    }

    private static FeedbackQueueSimulator emptied(Supplier<FeedbackQueueSimulator> state) {
        FeedbackQueueSimulator x = state.get();
        Refusal.thrown(x, FeedbackQueueSimulator::execute);
        return x;
    }

    private static void errorsLeaveTheMachine() {
        // All kinds of commands stand before the error.
        String[] texts = {"late=9;boost=3;level0=9,9,1;share0=5;strict=0;factor=3;x", "spawn00=c1;spawn11=c2i3;spawn",
            "limit=9;spawn01=(c1)9;decay=201;", ""};
        for (Supplier<FeedbackQueueSimulator> state : States.ALL) {
            for (String text : texts) {
                for (Function<FeedbackQueueSimulator, String> eye : Eyes.OF_MACHINE) {
                    FeedbackQueueSimulator x = emptied(state);
                    Check.put(x, text);
                    Check.due("refused", Refusal.thrown(x, FeedbackQueueSimulator::execute), Refusal.ARGUMENT.getName());
                    Check.due("the buffer", x.append(0), 0);
                    Check.due("the machine behind " + text, eye.apply(x), eye.apply(emptied(state)));
                }
            }
        }
        FeedbackQueueSimulator x = new FeedbackQueueSimulator();
        Check.put(x, "late=9;");
        x.execute();
        Check.due("empty without an exception", x.append(0), 0);
    }

    private static void errorPosition(Sentences s) {
        s.plain(8, "Returns the position of the error in the text that execute read most recently.");
        s.test(8, "Returns the index of the character, or -1 if that text had no error or execute was not called.", () -> {
            FeedbackQueueSimulator x = new FeedbackQueueSimulator();
            Check.due("not called", x.errorPosition(), -1);
            Check.put(x, "x");
            Check.due("not called yet", x.errorPosition(), -1);
            Refusal.thrown(x, FeedbackQueueSimulator::execute);
            Check.due("the first character", x.errorPosition(), 0);
            Check.put(x, "late=1;late=2;late=3;late=4;late=5;late=6;late=7;late=8;late");
            Check.due("the text read before", x.errorPosition(), 0);
            Refusal.thrown(x, FeedbackQueueSimulator::execute);
            Check.due("the length of 60 characters", x.errorPosition(), 60);
            Check.put(x, "late=1;late=2;late=3;late=4;late=5;late=6;late=7;late=8;late");
            Refusal.thrown(x, y -> y.append('!'));
            Check.due("a refused append changes nothing", x.errorPosition(), 60);
            Check.good(emptied(() -> x), "late=1;", 1);
            Check.due("no error", x.errorPosition(), -1);
            Refusal.thrown(x, FeedbackQueueSimulator::execute);
            Check.due("an empty text", x.errorPosition(), 0);
        });
    }

    private static void commands(Sentences s) {
        s.plain(DESCRIPTION, "It contains commands in this form, where braces mean zero or more repetitions, brackets mean zero or"
                + " one, and characters in quotes are meant literally:");
        s.test(DESCRIPTION, "text = command { command }", () -> {
            bad("", 0);
            good("late=1;", 1);
            good("late=1;late=1;late=1;late=1;late=1;late=1;late=1;late=1;", 8);
            bad("late=1;;", 7);
            bad("late=1;1", 7);
        });
        s.test(DESCRIPTION, "command = option \"=\" number \";\"", () -> {
            for (int option = 0; option < 6; option++) {
                literally(WORDS[option] + "=1;", WORDS[option].length());
            }
        });
        s.test(DESCRIPTION, "\"level\" digit \"=\" number \",\" number \",\" number \";\"",
                () -> {
            literally("level0=1,1,1;", 5);
            bad("level0=1;", 8);
            bad("level0=1,;", 9);
            bad("level0=1,1;", 10);
            bad("level0=1,1,;", 11);
            bad("level0=1,1,1,1;", 12);
            bad("level0=,1,1;", 7);
            bad("level0=1,,1;", 9);
            bad("level0=1;1;1;", 8);
            bad("level0=1=1=1;", 8);
            // Without a comma, two numbers become one.
            bad("level0=11,1;", 11);
            bad("level0=1,11;", 11);
        });
        s.test(DESCRIPTION, "\"share\" digit \"=\" number \";\"", () -> literally("share0=1;", 5));
        s.test(DESCRIPTION, "\"spawn\" digit digit \"=\" program \";\"", () -> literally("spawn00=c1;", 5));
        s.test(DESCRIPTION, "option = \"boost\" | \"decay\" | \"factor\" | \"late\" | \"limit\" | \"strict\"", () -> {
            for (int option = 0; option < 6; option++) {
                String word = WORDS[option];
                good(word + "=1;", 1);
                bad(word.substring(1) + "=1;", 0);
                bad(word.substring(0, word.length() - 1) + "=1;", 0);
                bad(word + "s=1;", 0);
                bad("s" + word + "=1;", 0);
                bad(word.toUpperCase(java.util.Locale.ROOT) + "=1;", 0);
                bad(word + word + "=1;", 0);
                for (int k = 0; k < word.length(); k++) {
                    bad(word.substring(0, k) + "z" + word.substring(k + 1) + "=1;", 0);
                }
            }
        });
    }

    /** Behind the word of a command, each sign must be there: the text ends before it, or another stands in its place. */
    private static void literally(String command, int word) {
        good(command, 1);
        for (int k = word; k < command.length(); k++) {
            String before = command.substring(0, k);
            String behind = command.substring(k + 1);
            char sign = command.charAt(k);
            bad(before, k);
            bad(before + "!" + behind, k);
            if (sign == '=' || sign == ';') {
                bad(before + behind, k);
                bad(before + sign + command.substring(k), k + 1);
            }
        }
    }

    private static void programs(Sentences s) {
        s.test(DESCRIPTION, "program = unit { unit }", () -> {
            bad("spawn00=;", 8);
            bad("spawn00=()1;", 9);
            bad("spawn00=c1()1;", 11);
            bad("spawn00=(c1()1)1;", 12);
            bad("spawn00=(c1)1()1;", 14);
            good("spawn00=c1;", 1);
            good("spawn00=(c1)1;", 1);
            good("spawn00=c1(c1)1c1(c1c1)1;", 1);
            // The most units that 60 characters can have without parentheses.
            FeedbackQueueSimulator x = new FeedbackQueueSimulator();
            Check.good(x, "spawn00=c1c1c1c1c1c1c1c1c1c1c1c1c1c1c1c1c1c1c1c1c1c1c1c1c1;", 1);
            x.run(25);
            Check.due("25 units", x.property(0, 8), 25);
        });
        s.test(DESCRIPTION, "unit = \"c\" number [ \"i\" number | \"y\" ] | \"(\" program \")\" digit", () -> {
            good("spawn00=c1;", 1);
            good("spawn00=c1i1;", 1);
            good("spawn00=c1y;", 1);
            good("spawn00=(c1)1;", 1);
            bad("spawn00=c;", 9);
            bad("spawn00=1;", 8);
            bad("spawn00=y;", 8);
            bad("spawn00=i1;", 8);
            bad("spawn00=c1i;", 11);
            bad("spawn00=c1y1;", 11);
            bad("spawn00=c1yy;", 11);
            bad("spawn00=c1yi1;", 11);
            bad("spawn00=c1i1y;", 12);
            bad("spawn00=c1i1i1;", 12);
            bad("spawn00=(c1);", 12);
            bad("spawn00=(c1)11;", 13);
            bad("spawn00=(c1)1y;", 13);
            bad("spawn00=(c1;", 11);
            bad("spawn00=c1)1;", 10);
            bad("spawn00=(c1)1)1;", 13);
        });
        s.test(DESCRIPTION, "number = one to three digits that do not start with 0, or 0 alone; it is read as far as digits follow"
                + " that it can have", () -> {
            Check.due("0 alone", option("boost=0;", 0), 0);
            Check.due("one digit", option("boost=9;", 0), 9);
            Check.due("two digits", option("boost=99;", 0), 99);
            Check.due("three digits", option("boost=200;", 0), 200);
            bad("boost=;", 6);
            bad("boost=00;", 7);
            bad("boost=07;", 7);
            bad("boost=0200;", 7);
            bad("boost=1000;", 9);
            bad("boost=2000;", 9);
            bad("boost=2001;", 9);
            bad("boost=-1;", 6);
            bad("boost=+1;", 6);
            // Three digits are read; the range is looked at before the fourth one.
            bad("boost=2010;", 6);
            bad("boost=9999;", 6);
            bad("limit=00;", 6);
            bad("late=1000;", 5);
        });
    }

    private static int option(String text, int option) {
        FeedbackQueueSimulator x = new FeedbackQueueSimulator();
        Check.good(x, text, 1);
        return x.setOption(option, 1);
    }

    private static void meanings(Sentences s) {
        s.test(DESCRIPTION, "The options are those with the numbers 0 to 5, in this order.", () -> {
            for (int option = 0; option < 6; option++) {
                for (int value : new int[] {LEAST[option], MOST[option]}) {
                    Check.due(WORDS[option], option(WORDS[option] + "=" + value + ";", option), value);
                }
            }
        });
        s.test(DESCRIPTION, "A level has a quantum, an allotment and a policy; a share is the weight of a user; spawn has a user"
                + " and a kind.", TextCases::parts);
        s.test(DESCRIPTION, "In a program, c is followed by the ticks of a computation (1 to 30),", () -> {
            bad("spawn00=c0;", 9);
            bad("spawn00=c31;", 9);
            for (int cpu = 1; cpu <= 30; cpu++) {
                FeedbackQueueSimulator x = new FeedbackQueueSimulator();
                Check.good(x, "spawn00=c" + cpu + ";", 1);
                Check.due("end", x.predictEnd(0, 40), cpu);
            }
        });
        s.test(DESCRIPTION, "i by those of an operation (1 to 30), y is a yield,", () -> {
            bad("spawn00=c1i0c1;", 11);
            bad("spawn00=c1i31c1;", 11);
            for (int io = 1; io <= 30; io++) {
                FeedbackQueueSimulator x = new FeedbackQueueSimulator();
                Check.good(x, "spawn00=c1i" + io + "c1;", 1);
                Check.due("end", x.predictEnd(0, 40), 2 + io);
            }
            FeedbackQueueSimulator x = new FeedbackQueueSimulator();
            Check.good(x, "spawn00=c1yc1;spawn00=c1yc1;", 2);
            Check.ran(x, 0, 1, 0, 1);
        });
        s.test(DESCRIPTION, "and a program in parentheses is repeated as often as the digit says (1 to 9).", () -> {
            bad("spawn00=(c1)0;", 12);
            for (int times = 1; times <= 9; times++) {
                FeedbackQueueSimulator x = new FeedbackQueueSimulator();
                Check.good(x, "spawn00=c2(c1i1c2)" + times + "c1;", 1);
                Check.due("end", x.predictEnd(0, 50), 3 + 4 * times);
            }
            FeedbackQueueSimulator nested = new FeedbackQueueSimulator();
            Check.good(nested, "spawn00=((c1i1)2c3)3(c2)9;", 1);
            Check.due("end", nested.predictEnd(0, 100), 3 * (2 * 2 + 3) + 18);
        });
        s.test(DESCRIPTION, "At most 3 parentheses are open at the same time.", () -> {
            good("spawn00=(((c1)1)1)1;", 1);
            good("spawn00=(((c1)1(c1)1)1((c1)1)1)1(((c1)1)1)1;", 1);
            good("spawn00=(c1)1(c1)1(c1)1(c1)1(c1)1;", 1);
            bad("spawn00=((((c1)1)1)1)1;", 11);
        });
        s.test(DESCRIPTION, "At the beginning of a command, the longest sequence of letters a to z is read as one word.", () -> {
            bad("latelimit=1;", 0);
            bad("boostx=1;", 0);
            bad("boosta=1;", 0);
            bad("boostz=1;", 0);
            bad("levela=1,1,1;", 0);
            bad("spawnc1;", 0);
            bad("sharey0=1;", 0);
            bad("late=1;lates=1;", 7);
            // The signs beside a and z are no letters, nor are those from A to Z.
            bad("boost`=1;", 5);
            bad("boost{=1;", 5);
            bad("boostA=1;", 5);
            bad("boostZ=1;", 5);
            // A word that the end cuts off is one as well.
            for (String word : WORDS) {
                for (int k = 1; k < word.length(); k++) {
                    bad(word.substring(0, k), 0);
                    bad("late=1;" + word.substring(0, k), 7);
                }
                bad(word, word.length());
            }
        });
    }

    private static void parts() {
        FeedbackQueueSimulator x = new FeedbackQueueSimulator();
        Check.good(x, "level0=1,3,0;level1=20,40,1;level2=3,1,0;", 3);
        int[] quanta = {1, 20, 3};
        for (int level = 0; level < 3; level++) {
            Check.due("quantum of " + level, x.setLevel(level, quanta[level], 40, 0), quanta[level]);
        }
        FeedbackQueueSimulator y = new FeedbackQueueSimulator();
        Check.good(y, "level0=1,3,1;spawn30=c9;spawn01=c9;", 3);
        Check.due("user", y.property(0, 0), 3);
        Check.due("kind", y.property(0, 1), 0);
        Check.due("user", y.property(1, 0), 0);
        Check.due("kind", y.property(1, 1), 1);
        // Fair with a quantum of 1; behind the allotment of 3 there is level 1.
        Check.ran(y, 1, 0, 1, 0, 1);
        Check.due("level behind the allotment", y.property(1, 2), 1);
        for (int user = 0; user < 4; user++) {
            FeedbackQueueSimulator z = new FeedbackQueueSimulator();
            Check.good(z, "share" + user + "=" + (9 - user) + ";", 1);
            Check.due("weight", z.setShare(user, 1), 9 - user);
        }
    }

    static void good(String text, int commands) {
        Check.good(new FeedbackQueueSimulator(), text, commands);
    }

    static void bad(String text, int position) {
        Check.bad(new FeedbackQueueSimulator(), text, position);
    }

    private static FeedbackQueueSimulator filled(int length) {
        FeedbackQueueSimulator x = new FeedbackQueueSimulator();
        for (int k = 0; k < length; k++) {
            x.append('a' + k % 26);
        }
        return x;
    }
}
