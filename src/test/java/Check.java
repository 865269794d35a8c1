/** What the tests share: comparing answers, expecting exceptions, putting texts. */
final class Check {
    private static int wrong = 0;
    private static String about = "";
    private static String inside = "";

    interface Call {
        long answer();
    }

    private Check() {
    }

    /** What the answers that follow are about: it stands before the message of a wrong one. */
    static void about(String sentence) {
        about = sentence.isEmpty() ? "" : sentence + ": ";
        inside = "";
    }

    static void inside(String part) {
        inside = part.isEmpty() ? "" : part + ": ";
    }

    static void due(String what, long got, long want) {
        if (got != want) {
            tellWrong(what, "" + got, "" + want);
        }
    }

    static void due(String what, String got, String want) {
        if (!got.equals(want)) {
            tellWrong(what, got, want);
        }
    }

    private static void tellWrong(String what, String got, String want) {
        wrong++;
        System.out.println(about + inside + what + " answered " + got + ", due is " + want);
    }

    /** The processes that run in the next ticks, -1 for an idle one. */
    static void ran(FeedbackQueueSimulator x, int... want) {
        for (int process : want) {
            int t = x.clock();
            due("the tick at " + t, x.tick(), process);
        }
    }

    /**
     * The exact class is compared: the machine's own exceptions stand below those of the document.
     * That the state stays as it was is the matter of Refusal, which has objects enough to look at it.
     */
    static void fails(String what, Class<? extends RuntimeException> kind, Call call) {
        String got;
        try {
            got = "the answer " + call.answer();
        } catch (RuntimeException e) {
            got = e.getClass().getName();
        }
        due(what, got, kind.getName());
    }

    static void failsIndex(String what, Call call) {
        fails(what, IndexOutOfBoundsException.class, call);
    }

    static void failsArgument(String what, Call call) {
        fails(what, IllegalArgumentException.class, call);
    }

    static void failsState(String what, Call call) {
        fails(what, IllegalStateException.class, call);
    }

    static void put(FeedbackQueueSimulator x, String text) {
        int packed = 0;
        for (int k = 0; k < text.length(); k++) {
            packed = packed << 8 | text.charAt(k);
            if (k % 4 == 3 || k + 1 == text.length()) {
                x.append(packed);
                packed = 0;
            }
        }
    }

    static void good(FeedbackQueueSimulator x, String text, int commands) {
        put(x, text);
        due("the length of " + text, x.append(0), text.length());
        String got;
        try {
            got = "" + x.execute();
        } catch (RuntimeException e) {
            got = e.getClass().getName() + " at " + x.errorPosition();
        }
        due("execute of " + text, got, "" + commands);
        due("errorPosition after " + text, x.errorPosition(), -1);
        due("the buffer after " + text, x.append(0), 0);
    }

    static void bad(FeedbackQueueSimulator x, String text, int position) {
        put(x, text);
        String before = lookAtMachine(x);
        String got;
        try {
            got = "" + x.execute();
        } catch (RuntimeException e) {
            got = e.getClass().getName();
        }
        due("execute of " + text, got, "java.lang.IllegalArgumentException");
        due("errorPosition after " + text, x.errorPosition(), position);
        due("the buffer after " + text, x.append(0), 0);
        due("the machine after " + text, lookAtMachine(x), before);
    }

    /** All that can be seen of an object, the buffer's length and the error position too. */
    static String look(FeedbackQueueSimulator x) {
        return x.append(0) + " " + x.errorPosition() + " " + lookAtMachine(x);
    }

    static String lookAtMachine(FeedbackQueueSimulator x) {
        StringBuilder seen = new StringBuilder();
        seen.append("clock ").append(x.clock()).append(" suspects ").append(x.suspects());
        for (int what = 0; what < 8; what++) {
            seen.append(" total").append(what).append('=').append(x.total(what));
        }
        int processes = x.total(5);
        for (int p = 0; p < processes; p++) {
            seen.append("\n process ").append(p).append(" state ").append(x.state(p)).append(':');
            for (int what = 0; what < 12; what++) {
                seen.append(' ').append(x.property(p, what));
            }
            seen.append(" late ").append(x.lateBits(p)).append(" predicted ").append(x.predictEnd(p, 150));
        }
        for (int level = 0; level < 5; level++) {
            seen.append("\n level ").append(level).append(':');
            try {
                for (int k = 0; k < x.queueLength(level); k++) {
                    seen.append(' ').append(x.queued(level, k));
                }
            } catch (IndexOutOfBoundsException e) {
                seen.append(" none");
            }
        }
        seen.append("\n past:");
        for (int back = 0; back < 32 && back < x.clock(); back++) {
            seen.append(' ').append(x.history(back));
        }
        for (int user = 0; user < 4; user++) {
            int weight = x.setShare(user, 1);
            x.setShare(user, weight);
            seen.append("\n user ").append(user).append(" weight ").append(weight);
            seen.append(" ratio ").append(x.ratioBits(user));
        }
        for (int option = 0; option < 6; option++) {
            int value = x.setOption(option, 1);
            x.setOption(option, value);
            seen.append(" option").append(option).append('=').append(value);
        }
        for (int entry = 0; entry < x.usageEntries(); entry++) {
            seen.append("\n entry:");
            for (int what = 0; what < 3; what++) {
                seen.append(' ').append(x.usageEntry(entry, what));
            }
        }
        return seen.toString();
    }

    /** Ends a test: with exit code 1 if an answer was wrong. */
    static void end() {
        System.out.println(wrong == 0 ? "all answers are as due" : wrong + " answers are not as due");
        if (wrong != 0) {
            System.exit(1);
        }
    }
}
