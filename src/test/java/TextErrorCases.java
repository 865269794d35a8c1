/** Where the errors of a text are reported. */
final class TextErrorCases {
    private static final int DESCRIPTION = Sentences.DESCRIPTION;

    /** A place for a number: what stands before it, behind it, and its range. */
    private static final Object[][] NUMBERS = {
        {"boost=", ";", 0, 200}, {"decay=", ";", 0, 200}, {"factor=", ";", 0, 16}, {"late=", ";", 0, 9},
        {"limit=", ";", 1, 9}, {"strict=", ";", 0, 1}, {"level0=", ",1,1;", 1, 20}, {"level0=1,", ",1;", 1, 40},
        {"level0=1,1,", ";", 0, 1}, {"share0=", ";", 1, 9}, {"spawn00=c", ";", 1, 30}, {"spawn00=c1i", ";", 1, 30},
        {"late=9;spawn00=(c1y(c1i", "c1)2)3;", 1, 30},
    };

    private TextErrorCases() {
    }

    static void tell(Sentences s) {
        s.test(DESCRIPTION, "The text is read from left to right, and the first error is reported at its position:", () -> {
            bad("late=10;limit=10;", 5);
            bad("late=1;limit=10;x", 13);
            bad("share4=10,", 5);
            bad("level3=21,41,2!", 5);
            bad("level0=21,41,2!", 7);
            bad("level0=20,41,2!", 10);
            bad("level0=20,40,2!", 13);
            bad("level0=20,40,1!", 14);
            bad("spawn42=c0;", 5);
            bad("spawn02=c0;", 6);
            bad("spawn01=c0(;", 9);
            bad("spawn01=(c1)0)", 12);
        });
        words(s);
        signs(s);
        ends(s);
        numbers(s);
        digits(s);
        tooMany(s);
        s.plain(DESCRIPTION, "The constructor and the methods follow, a promise each: the signature, then what it does.");
    }

    private static void words(Sentences s) {
        s.test(DESCRIPTION, "at the first letter of a word that is not one of those above;", () -> {
            for (char letter = 'a'; letter <= 'z'; letter++) {
                bad("" + letter, 0);
                bad(letter + "=1;", 0);
                bad("late=1;" + letter + "=1;", 7);
                bad("boost" + letter + "=1;", 0);
            }
            bad("option=1;", 0);
            bad("level0=1,1,1;levels=3;", 13);
            bad("late=1;late=2;late=3;late=4;late=5;late=6;late=7;late=8;lat=", 56);
            bad("late=1;late=2;late=3;late=4;late=5;late=6;late=7;late=8;xxxx", 56);
        });
    }

    private static void signs(Sentences s) {
        s.test(DESCRIPTION, "at a character that is not allowed,", () -> {
            // At each place of this text, all signs are tried that cannot stand there.
            String text = "late=1;level0=1,1,1;spawn00=(c1i1)1;";
            for (int place = 0; place < text.length(); place++) {
                for (char sign = 33; sign <= 126; sign++) {
                    if ("abcdefghijklmnopqrstuvwxyz0123456789=,;()".indexOf(sign) < 0) {
                        bad(text.substring(0, place) + sign + text.substring(place + 1), errorAt(text, place));
                    }
                }
            }
            bad("0", 0);
            bad("=", 0);
            bad(";", 0);
            bad("!", 0);
            bad("~", 0);
        });
        s.test(DESCRIPTION, "at a fourth opening parenthesis that would be open,", () -> {
            bad("spawn00=((((", 11);
            bad("spawn00=((((c1)1)1)1)1;", 11);
            bad("spawn00=(((c1(c1)1)1)1)1;", 13);
            bad("spawn00=c1(c1(c1(c1(c1)1)1)1)1;", 19);
            bad("spawn00=(((c1)1)1)1((((c1)1)1)1)1;", 22);
            bad("spawn00=(((c1)1(c1)1(c1)1(c1(", 28);
        });
    }

    /** Within a word, a wrong sign ends it: what stands before it is no word, unless nothing stands there. */
    private static int errorAt(String text, int place) {
        int start = place;
        while (start > 0 && Character.isLetter(text.charAt(start - 1))) {
            start--;
        }
        boolean begins = start == 0 || text.charAt(start - 1) == ';';
        boolean inside = Character.isLetter(text.charAt(place));
        return begins && inside ? start : place;
    }

    private static void ends(Sentences s) {
        s.test(DESCRIPTION, "or at the length of the text if it ends too early;", () -> {
            String text = "late=9;level0=20,40,1;share3=9;spawn31=(c30i30(c1y)9)1c2i3;";
            int start = 0;
            for (int length = 0; length <= text.length(); length++) {
                String cut = text.substring(0, length);
                boolean complete = length > 0 && cut.charAt(length - 1) == ';';
                if (complete) {
                    start = length;
                    TextCases.good(cut, cut.length() - cut.replace(";", "").length());
                } else {
                    // A word that is cut off is no word of those above.
                    String word = cut.substring(start);
                    boolean letters = word.matches("[a-z]+") && !word.matches("late|level|share|spawn");
                    bad(cut, letters ? start : length);
                }
            }
            bad("", 0);
            endsBehindLongerTexts();
            bad("late=1;late=2;late=3;late=4;late=5;late=6;late=7;late=8;late", 60);
            bad("late=1;late=2;late=3;late=4;late=5;late=6;late=7;level0=1,1,", 60);
        });
    }

    /** What an earlier and longer text had at the place where this one ends does not go on with it. */
    private static void endsBehindLongerTexts() {
        String text = "level0=20,40,1;share3=9;spawn31=(c30i30(c1y)9)1c2i3;";
        for (int length = 0; length < text.length(); length++) {
            String cut = text.substring(0, length);
            FeedbackQueueSimulator x = new FeedbackQueueSimulator();
            Check.put(x, text);
            x.execute();
            Check.put(x, cut);
            FeedbackQueueSimulator fresh = new FeedbackQueueSimulator();
            Check.put(fresh, cut);
            Check.due("execute of " + cut, Refusal.thrown(x, FeedbackQueueSimulator::execute),
                    Refusal.thrown(fresh, FeedbackQueueSimulator::execute));
            Check.due("errorPosition of " + cut, x.errorPosition(), fresh.errorPosition());
        }
    }

    private static void numbers(Sentences s) {
        s.test(DESCRIPTION, "at the first digit of a number that is out of range,", () -> {
            for (Object[] row : NUMBERS) {
                String before = (String) row[0];
                String behind = (String) row[1];
                int least = (Integer) row[2];
                int most = (Integer) row[3];
                for (int value = 0; value <= 999; value++) {
                    String text = before + value + behind;
                    if (value >= least && value <= most) {
                        TextCases.good(text, before.startsWith("late=9;") ? 2 : 1);
                    } else {
                        bad(text, before.length());
                    }
                }
                tooManyDigits(before, behind, least, most);
            }
        });
    }

    private static void tooManyDigits(String before, String behind, int least, int most) {
        for (int value = 1000; value <= 9999; value += 7) {
            boolean fine = value / 10 >= least && value / 10 <= most;
            bad(before + value + behind, before.length() + (fine ? 3 : 0));
        }
        for (int digit = 0; digit <= 9; digit++) {
            bad(before + "0" + digit + behind, before.length() + (least == 0 ? 1 : 0));
        }
    }

    private static void digits(Sentences s) {
        s.test(DESCRIPTION, "of the digit of a level or user that does not exist,", () -> {
            for (int levels = 1; levels <= 5; levels++) {
                for (int digit = 0; digit <= 9; digit++) {
                    FeedbackQueueSimulator x = new FeedbackQueueSimulator();
                    x.setLevels(levels);
                    oneOrBad(x, "level" + digit + "=1,1,1;", digit < levels, 5);
                }
            }
            for (int digit = 0; digit <= 9; digit++) {
                oneOrBad(new FeedbackQueueSimulator(), "share" + digit + "=1;", digit < 4, 5);
                oneOrBad(new FeedbackQueueSimulator(), "spawn" + digit + "0=c1;", digit < 4, 5);
            }
            bad("level10=1,1,1;", 6);
            bad("share03=1;", 6);
        });
        s.test(DESCRIPTION, "or of a kind or repetition that is out of range;", () -> {
            for (int digit = 0; digit <= 9; digit++) {
                oneOrBad(new FeedbackQueueSimulator(), "spawn0" + digit + "=c1;", digit < 2, 6);
                oneOrBad(new FeedbackQueueSimulator(), "spawn00=(c1)" + digit + ";", digit > 0, 12);
            }
            bad("spawn00=((c1)0)0;", 13);
            bad("spawn00=(c1)10;", 13);
            bad("spawn000=c1;", 7);
        });
    }

    private static void oneOrBad(FeedbackQueueSimulator x, String text, boolean fine, int position) {
        if (fine) {
            Check.good(x, text, 1);
        } else {
            Check.bad(x, text, position);
        }
    }

    private static void tooMany(Sentences s) {
        s.test(DESCRIPTION, "at the word spawn if there would be more than 10 processes;", () -> {
            String one = "spawn00=c1;";
            for (int before = 5; before <= 10; before++) {
                for (int more = 1; more <= 5; more++) {
                    FeedbackQueueSimulator x = new FeedbackQueueSimulator();
                    for (int p = 0; p < before; p++) {
                        x.spawn(0, 0, 1, 0, 1);
                    }
                    if (before + more <= 10) {
                        Check.good(x, one.repeat(more), more);
                    } else {
                        Check.bad(x, one.repeat(more), one.length() * (10 - before));
                    }
                }
            }
            // The word comes before all that is wrong behind it, and behind all that is wrong before it.
            Check.bad(full(), "spawn99=c0", 0);
            Check.bad(full(), "spawn", 0);
            Check.bad(full(), "late=1;spawn00=((c1)9)9;", 7);
            Check.bad(full(), "late=10;spawn00=c1;", 5);
            Check.bad(full(), "spaw", 0);
            FeedbackQueueSimulator ended = full();
            ended.run(10);
            Check.bad(ended, one, 0);
        });
        s.test(DESCRIPTION, "or at the semicolon that ends a program with more than 60 units.", () -> {
            TextCases.good("spawn00=((c1)6)9(c1)6;", 1);
            bad("spawn00=((c1)6)9(c1)7;", 21);
            bad("spawn00=((c1)7)9;", 16);
            bad("spawn00=((c1c1c1)5)4c1;", 22);
            TextCases.good("spawn00=((c1c1c1)5)4;", 1);
            bad("spawn00=(((c1)9)9)9;", 19);
            bad("spawn00=(((c1)9)9)9(((c1)9)9)9(((c1)9)9)9(((c1)9)9)9c1;", 54);
            bad("late=1;spawn00=((c1)9)7;late=10;", 23);
            // What is wrong before the semicolon comes first.
            bad("spawn00=(((c1)9)9)9c31;", 20);
            bad("spawn00=(((c1)9)9)9((((", 22);
            bad("spawn00=(((c1)9)9)9", 19);
            bad("spawn00=(((c1)9)9)9!", 19);
            bad("spawn00=((c1)9)9(c1)0;", 20);
        });
    }

    private static FeedbackQueueSimulator full() {
        FeedbackQueueSimulator x = new FeedbackQueueSimulator();
        for (int p = 0; p < 10; p++) {
            x.spawn(0, 0, 1, 0, 1);
        }
        return x;
    }

    private static void bad(String text, int position) {
        TextCases.bad(text, position);
    }
}
