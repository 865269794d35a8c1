/** Promises 6 to 8. */
public final class TextTest {
    public static void main(String[] args) {
        characters();
        commands();
        programs();
        errorsOfWords();
        errorsOfNumbers();
        errorsOfPrograms();
        limits();
        tenProcesses();
        positions();
        Check.end();
    }

    private static void characters() {
        FeedbackQueueSimulator x = new FeedbackQueueSimulator();
        Check.due("6: four", x.append('l' << 24 | 'a' << 16 | 't' << 8 | 'e'), 4);
        Check.due("6: zeros are skipped", x.append('=' << 24 | '4'), 6);
        Check.due("6: nothing", x.append(0), 6);
        Check.due("6: one", x.append(';' << 16), 7);
        Check.due("6: they were in this order", x.execute(), 1);
        Check.due("6: the late margin", x.setOption(3, 1), 4);
        Check.due("6: edges", x.append('!' << 24 | '~'), 2);
        Check.failsArgument("6: 32", () -> x.append(32));
        Check.failsArgument("6: 127", () -> x.append('a' << 24 | 127));
        Check.failsArgument("6: 128", () -> x.append(128 << 24 | 'a'));
        Check.failsArgument("6: 255", () -> x.append(-1));
        Check.failsArgument("6: 1", () -> x.append(1 << 8));
        Check.due("6: unchanged", x.append(0), 2);
        for (int k = 3; k <= 59; k++) {
            Check.due("6: up to 59", x.append('x'), k);
        }
        Check.failsState("6: 61", () -> x.append('a' << 24 | 'b'));
        Check.failsArgument("6: argument before state", () -> x.append('a' << 24 | 'b' << 16 | 7));
        Check.due("6: 60", x.append('z' << 24), 60);
        Check.failsState("6: full", () -> x.append('a'));
        Check.due("6: nothing more", x.append(0), 60);
    }

    private static void commands() {
        FeedbackQueueSimulator x = new FeedbackQueueSimulator();
        Check.good(x, "boost=200;decay=100;factor=16;late=9;limit=9;strict=0;", 6);
        int[] values = {200, 100, 16, 9, 9, 0};
        for (int option = 0; option < 6; option++) {
            Check.due("7: option " + option, x.setOption(option, 1), values[option]);
        }
        Check.good(x, "level2=20,40,1;share3=9;level0=1,2,0;", 3);
        Check.due("7: quantum", x.setLevel(2, 8, 16, 0), 20);
        Check.due("7: weight", x.setShare(3, 1), 9);
        Check.due("7: quantum", x.setLevel(0, 1, 2, 0), 1);
        Check.good(x, "late=1;late=2;late=3;", 3);
        Check.due("7: the last of them", x.setOption(3, 1), 3);
        Check.good(x, "boost=0;", 1);
        Check.due("7: zero alone", x.setOption(0, 0), 0);
    }

    private static void programs() {
        FeedbackQueueSimulator x = new FeedbackQueueSimulator();
        x.setLevel(0, 20, 40, 0);
        Check.good(x, "spawn31=(c1y(c2i3)2)2c4;", 1);
        Check.due("7: user", x.property(0, 0), 3);
        Check.due("7: kind", x.property(0, 1), 1);
        Check.due("7: level", x.property(0, 2), 0);
        Check.due("7: queue", x.queued(0, 0), 0);
        // 1 yield, 2 3, 2 3, 1 yield, 2 3, 2 3, 4: 14 ticks of computation and 12 of operations.
        Check.due("7: idle ticks", x.run(26), 12);
        Check.due("7: finished", x.property(0, 8), 26);
        Check.due("7: give-ups", x.property(0, 9), 6);
        FeedbackQueueSimulator y = new FeedbackQueueSimulator();
        y.setLevel(0, 20, 40, 0);
        Check.good(y, "spawn00=c3c2i30;spawn10=c30i30c30;", 2);
        Check.due("7: two", y.total(5), 2);
        y.run(5);
        Check.due("7: units without a give-up; the last give-up is ignored", y.property(0, 8), 5);
        y.run(30);
        Check.due("7: a wait of 30", y.state(1), 2);
        Check.due("7: idle", y.run(30), 30);
        Check.due("7: goes on", y.tick(), 1);
    }

    private static void errorsOfWords() {
        TextCases.bad("", 0);
        TextCases.bad("boots=1;", 0);
        TextCases.bad("boos", 0);
        TextCases.bad("boostx=1;", 0);
        TextCases.bad("latez=1;", 0);
        TextCases.bad("latea=1;", 0);
        TextCases.bad("late{=1;", 4);
        TextCases.bad("5", 0);
        TextCases.bad("Boost=1;", 0);
        TextCases.bad("late=1;lates=1;", 7);
        TextCases.bad("late=1;;", 7);
        TextCases.bad("late=1;=", 7);
        TextCases.bad("levelx0=1,1,1;", 0);
        TextCases.bad("boost", 5);
        TextCases.bad("boost1;", 5);
        TextCases.bad("boost=", 6);
        TextCases.bad("boost=;", 6);
        TextCases.bad("boost=1", 7);
        TextCases.bad("boost=1,", 7);
        TextCases.bad("late=5;boost=1:", 14);
    }

    private static void errorsOfNumbers() {
        FeedbackQueueSimulator x = new FeedbackQueueSimulator();
        TextCases.bad("boost=201;", 6);
        TextCases.bad("boost=999;", 6);
        TextCases.bad("boost=1000;", 9);
        TextCases.bad("boost=2010;", 6);
        TextCases.bad("boost=00;", 7);
        TextCases.bad("boost=01;", 7);
        TextCases.bad("decay=201;", 6);
        TextCases.bad("factor=17;", 7);
        TextCases.bad("late=10;", 5);
        TextCases.bad("limit=0;", 6);
        TextCases.bad("limit=01;", 6);
        TextCases.bad("limit=10;", 6);
        TextCases.bad("strict=2;", 7);
        TextCases.bad("level3=1,1,1;", 5);
        TextCases.bad("levelx", 0);
        TextCases.bad("level=1,1,1;", 5);
        TextCases.bad("level", 5);
        TextCases.bad("level00=1,1,1;", 6);
        TextCases.bad("level0=0,1,1;", 7);
        TextCases.bad("level0=21,1,1;", 7);
        TextCases.bad("level0=1;", 8);
        TextCases.bad("level0=1,0,1;", 9);
        TextCases.bad("level0=1,41,1;", 9);
        TextCases.bad("level0=1,40,2;", 12);
        TextCases.bad("level0=1,40,1,", 13);
        TextCases.bad("level0=1,40;", 11);
        TextCases.bad("share4=1;", 5);
        TextCases.bad("share0=0;", 7);
        TextCases.bad("share0=10;", 7);
        TextCases.bad("share0=9", 8);
        TextCases.bad("share=9", 5);
        x.setLevels(5);
        Check.good(x, "level4=1,1,1;", 1);
        Check.bad(x, "level5=1,1,1;", 5);
        x.setLevels(1);
        Check.bad(x, "level1=1,1,1;", 5);
    }

    private static void errorsOfPrograms() {
        FeedbackQueueSimulator x = new FeedbackQueueSimulator();
        TextCases.bad("spawn", 5);
        TextCases.bad("spawn40=c1;", 5);
        TextCases.bad("spawn02=c1;", 6);
        TextCases.bad("spawn0=c1;", 6);
        TextCases.bad("spawn001=c1;", 7);
        TextCases.bad("spawn00=;", 8);
        TextCases.bad("spawn00=", 8);
        TextCases.bad("spawn00=c;", 9);
        TextCases.bad("spawn00=c0;", 9);
        TextCases.bad("spawn00=c31;", 9);
        TextCases.bad("spawn00=c1i;", 11);
        TextCases.bad("spawn00=c1i0;", 11);
        TextCases.bad("spawn00=c1i31;", 11);
        TextCases.bad("spawn00=c1yi1;", 11);
        TextCases.bad("spawn00=c1i1y;", 12);
        TextCases.bad("spawn00=y;", 8);
        TextCases.bad("spawn00=c1", 10);
        TextCases.bad("spawn00=c1)2;", 10);
        TextCases.bad("spawn00=();", 9);
        TextCases.bad("spawn00=(;", 9);
        TextCases.bad("spawn00=(c1;", 11);
        TextCases.bad("spawn00=(c1", 11);
        TextCases.bad("spawn00=(c1);", 12);
        TextCases.bad("spawn00=(c1)", 12);
        TextCases.bad("spawn00=(c1)0;", 12);
        TextCases.bad("spawn00=(c1)12;", 13);
        TextCases.bad("spawn00=(c1)2)2;", 13);
        TextCases.bad("spawn00=(c1)2y;", 13);
        TextCases.bad("spawn00=(c1(", 12);
        TextCases.bad("spawn00=((((c1)1)1)1)1;", 11);
        TextCases.bad("spawn00=c1(((c1(c1)2)2)2)2;", 15);
        TextCases.bad("spawn00=c1 ".trim() + ",", 10);
        TextCases.bad("late=2;spawn00=c1;share0=0;", 25);
        Check.good(x, "spawn00=(((c1)1)1)1(((c1)1)1)1;", 1);
    }

    private static void limits() {
        FeedbackQueueSimulator x = new FeedbackQueueSimulator();
        TextCases.bad("spawn00=((c1)9)7;", 16);
        TextCases.bad("spawn00=(((c1)9)9)9c1;", 21);
        TextCases.bad("spawn00=(((c1)9)9)9c1)", 21);
        TextCases.bad("spawn00=(((c1)9)9)9c0;", 20);
        TextCases.bad("spawn00=((c1)6)9(c1)7;", 21);
        TextCases.bad("spawn00=c1((c1)6)9c1(c1)5;", 25);
        Check.good(x, "spawn00=((c1)6)9c1(c1)5;", 1);
        x.run(60);
        Check.due("7: 60 units", x.property(0, 8), 60);
    }

    private static void tenProcesses() {
        FeedbackQueueSimulator x = processes(1);
        Check.good(x, "spawn00=c1;spawn00=c1;spawn00=c1;spawn00=c1;spawn00=c1;", 5);
        Check.bad(x, "late=7;spawn00=c1;spawn00=c1;spawn00=c1;spawn00=c1;spawn00=", 51);
        Check.due("7: nothing was executed", x.total(5), 6);
        Check.good(x, "spawn00=c1;spawn00=c1;spawn00=c1;spawn00=c1;", 4);
        Check.due("7: 10 processes", x.total(5), 10);
        Check.bad(processes(6), "spawn00=c1;spawn00=c1;spawn00=c1;spawn00=c1;spawnxx", 44);
        Check.bad(processes(10), "spawn99", 0);
        FeedbackQueueSimulator y = processes(10);
        Check.bad(y, "late=2;spawn00=c1;", 7);
        Check.due("7: the option was not set", y.setOption(3, 1), 1);
    }

    private static FeedbackQueueSimulator processes(int number) {
        FeedbackQueueSimulator x = new FeedbackQueueSimulator();
        for (int p = 0; p < number; p++) {
            x.spawn(0, 0, 1, 0, 1);
        }
        return x;
    }

    private static void positions() {
        FeedbackQueueSimulator x = new FeedbackQueueSimulator();
        Check.due("8: not called", x.errorPosition(), -1);
        Check.bad(x, "late=10;", 5);
        Check.put(x, "late=");
        Check.due("8: still the text that was read", x.errorPosition(), 5);
        Check.put(x, "4;");
        Check.due("8: executed", x.execute(), 1);
        Check.due("8: no error", x.errorPosition(), -1);
        Check.bad(x, "late", 4);
        x.save();
        Check.bad(x, "l", 0);
        x.restore();
        Check.due("8: not restored", x.errorPosition(), 0);
    }
}
