/** Promises 7 and 8: right texts with one sign changed, left out or put in, or cut off, compared with the reference. */
public final class TextSweepTest {
    private static final String[] TEXTS = {
        "boost=200;decay=10;factor=16;late=9;limit=1;strict=0;",
        "level2=20,40,1;share3=9;level0=1,1,0;",
        "spawn31=c30i30c1yc9(c1i1(c2y)9(c3c4)2)1;late=0;",
        "spawn00=(((c1)2)3)9((c1)1)6;spawn01=((c1)6)9(c2i1)6;",
        "spawn10=((c1)6)9(c2i1)6;share0=1;spawn20=(c1)9;",
    };

    private static int seen = 0;

    public static void main(String[] args) {
        for (String text : TEXTS) {
            for (int spawned = 0; spawned <= 10; spawned += 9) {
                sweep(text, spawned);
            }
        }
        System.out.println(seen + " texts");
        Check.end();
    }

    private static void sweep(String text, int spawned) {
        compare(text, spawned);
        for (int place = 0; place <= text.length(); place++) {
            String before = text.substring(0, place);
            String behind = text.substring(place);
            compare(before, spawned);
            if (!behind.isEmpty()) {
                compare(before + behind.substring(1), spawned);
            }
            for (char sign = 33; sign <= 126; sign++) {
                compare(before + sign + behind, spawned);
                if (!behind.isEmpty()) {
                    compare(before + sign + behind.substring(1), spawned);
                }
            }
        }
    }

    private static void compare(String text, int spawned) {
        FeedbackQueueSimulator x = new FeedbackQueueSimulator();
        Reference reference = new Reference();
        for (int p = 0; p < spawned; p++) {
            x.spawn(0, 0, 1, 0, 1);
            reference.call("spawn", new int[] {0, 0, 1, 0, 1});
        }
        for (int k = 0; k < text.length(); k++) {
            x.append(text.charAt(k));
            reference.call("append", new int[] {text.charAt(k)});
        }
        seen++;
        String due = answer(() -> reference.call("execute", new int[0]));
        Check.due("execute of " + text + " with " + spawned, answer(x::execute), due);
        Check.due("errorPosition of " + text + " with " + spawned, x.errorPosition(),
                reference.call("errorPosition", new int[0]));
        Check.due("processes behind " + text, x.total(5), reference.call("total", new int[] {5}));
    }

    private static String answer(Check.Call call) {
        try {
            return "" + call.answer();
        } catch (RuntimeException e) {
            return e.getClass().getName();
        }
    }
}
