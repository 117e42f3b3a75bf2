/** Each promise of the document by itself: ordinary inputs, the edges that it names, wrong inputs. */
public final class PromiseTest {
    private static final int NONE = WordTokenPasser.NONE;
    private static final int EDGE = 4;
    private static final int[] WILD = {
        Integer.MIN_VALUE, Integer.MIN_VALUE + 1, -10000, -2, 5, 6, 10000, Integer.MAX_VALUE - 1, Integer.MAX_VALUE
    };

    private static int wrong = 0;
    private static String part = "";

    private static void is(String call, long got, long want) {
        if (got != want) {
            wrong++;
            System.out.println(part + ": " + call + " answered " + got + ", due is " + want);
        }
    }

    private static void is(String call, boolean got, boolean want) {
        is(call, got ? 1 : 0, want ? 1 : 0);
    }

    private static void frames(WordTokenPasser x, int n) {
        for (int i = 0; i < n; i++) {
            x.frame();
        }
    }

    private static void words(WordTokenPasser x, int... want) {
        is("length", x.length(), want.length);
        is("wordAt(-1)", x.wordAt(-1), NONE);
        for (int i = 0; i < want.length; i++) {
            is("wordAt(" + i + ")", x.wordAt(i), want[i]);
        }
        is("wordAt(length)", x.wordAt(want.length), NONE);
    }

    /** Words 0 .. 3 of the one phone of the same number, and all grams of one, at no cost. */
    private static WordTokenPasser fourShortWords() {
        WordTokenPasser x = new WordTokenPasser();
        for (int w = 0; w <= EDGE; w++) {
            x.gram(NONE, NONE, w, 0, 0);
            if (w != EDGE) {
                x.say(w, w, NONE, NONE);
            }
        }
        return x;
    }

    private static void holdCosts(WordTokenPasser x, int hold) {
        for (int s = 0; s < 3; s++) {
            x.topology(s, hold, 0);
        }
    }

    private static void newObject() {
        part = "1 A new object";
        WordTokenPasser x = new WordTokenPasser();
        is("NONE", WordTokenPasser.NONE, -1);
        is("frames", x.frames(), 0);
        is("nodes", x.nodes(), 0);
        is("total", x.total(), NONE);
        is("live(1)", x.live(1), 0);
        is("best(1)", x.best(1), NONE);
        is("drop", x.drop(), false);
        words(x);
        for (int u = NONE; u <= EDGE; u++) {
            for (int v = NONE; v <= EDGE; v++) {
                for (int w = 0; w <= EDGE; w++) {
                    is("after", x.after(u, v, w), NONE);
                    is("ungram", x.ungram(u, v, w), false);
                }
            }
        }
        WordTokenPasser other = fourShortWords();
        frames(other, 4);
        is("nodes of one object beside another", x.nodes(), 0);
        is("frames of one object beside another", x.frames(), 0);
    }

    private static void firstTopologyIsZero() {
        part = "1 A new object, topology";
        WordTokenPasser x = fourShortWords();
        frames(x, 15);
        is("total", x.total(), 0);
        is("best(15)", x.best(15), 0);
    }

    private static void say() {
        part = "2 say";
        WordTokenPasser x = new WordTokenPasser();
        is("one phone", x.say(0, 3, NONE, NONE), 1);
        is("two phones, one node shared", x.say(0, 3, 3, NONE), 2);
        is("three phones, two nodes shared", x.say(0, 3, 3, 3), 3);
        is("the same of the same word, one phone", x.say(0, 3, NONE, NONE), NONE);
        is("the same of the same word, two phones", x.say(0, 3, 3, NONE), NONE);
        is("the same of the same word, three phones", x.say(0, 3, 3, 3), NONE);
        is("the same of another word", x.say(3, 3, 3, 3), 3);
        is("a beginning of another", x.say(3, 3, NONE, NONE), 3);
        is("the same last phone under another", x.say(1, 0, 3, NONE), 5);
        is("a branch", x.say(1, 0, 2, 1), 7);
        is("nodes", x.nodes(), 7);
        is("the eighth", x.say(2, 1, 1, 1), 10);
        is("the ninth", x.say(2, 2, NONE, NONE), NONE);
        is("the ninth, no new node", x.say(2, 3, NONE, NONE), NONE);
        is("nodes", x.nodes(), 10);
    }

    private static void sayTheSameAgain() {
        part = "2 say, the same again";
        WordTokenPasser x = new WordTokenPasser();
        x.say(1, 0, NONE, NONE);
        for (int phone = 3; phone >= 0; phone--) {
            is("two phones", x.say(1, 0, phone, NONE), 5 - phone);
            is("two phones again", x.say(1, 0, phone, NONE), NONE);
            is("one phone again", x.say(1, 0, NONE, NONE), NONE);
        }
        is("three phones", x.say(1, 0, 0, 0), 6);
        is("three phones again", x.say(1, 0, 0, 0), NONE);
        is("of another word", x.say(0, 0, 0, NONE), 6);
    }

    private static void sayMostNodes() {
        part = "2 say, the largest tree";
        WordTokenPasser x = new WordTokenPasser();
        int[][] apart = {{0, 0, 0}, {0, 1, 0}, {1, 0, 0}, {1, 1, 0}, {2, 0, 0}, {2, 1, 0}, {3, 0, 0}, {3, 1, 0}};
        int[] want = {3, 5, 8, 10, 13, 15, 18, 20};
        for (int i = 0; i < 8; i++) {
            is("say " + i, x.say(i % 4, apart[i][0], apart[i][1], apart[i][2]), want[i]);
        }
        frames(x, 9);
        is("live(9), no grams: every state of every node", x.live(9), 60);
    }

    private static void sayRefused() {
        part = "2 say, refused";
        WordTokenPasser x = new WordTokenPasser();
        for (int bad : WILD) {
            is("w " + bad, x.say(bad, 0, 0, 0), NONE);
            is("p " + bad, x.say(0, bad, 0, 0), NONE);
            is("q " + bad, x.say(0, 0, bad, 0), NONE);
            is("q, r NONE " + bad, x.say(0, 0, bad, NONE), NONE);
            is("r " + bad, x.say(0, 0, 0, bad), NONE);
            is("r, q NONE " + bad, x.say(0, 0, NONE, bad), NONE);
        }
        is("w NONE", x.say(NONE, 0, 0, 0), NONE);
        is("w EDGE", x.say(EDGE, 0, 0, 0), NONE);
        is("p NONE", x.say(0, NONE, NONE, NONE), NONE);
        is("p 4", x.say(0, 4, NONE, NONE), NONE);
        is("q 4", x.say(0, 0, 4, NONE), NONE);
        is("r 4", x.say(0, 0, 0, 4), NONE);
        is("r without q", x.say(0, 0, NONE, 0), NONE);
        is("nodes", x.nodes(), 0);
        for (int i = 0; i < 8; i++) {
            is("refused ones are not counted", x.say(i % 4, i / 4, NONE, NONE), i / 4 + 1);
        }
        is("the ninth", x.say(0, 2, NONE, NONE), NONE);
    }

    private static void gram() {
        part = "3 gram";
        WordTokenPasser x = new WordTokenPasser();
        is("one", x.gram(NONE, NONE, 0, 10, 1), true);
        is("after of one", x.after(EDGE, EDGE, 0), 10);
        is("one, EDGE", x.gram(NONE, NONE, EDGE, 20, 2), true);
        is("after with the backoff of EDGE", x.after(EDGE, EDGE, 0), 12);
        is("two", x.gram(NONE, 0, EDGE, 300, 9), true);
        is("after of two", x.after(EDGE, 0, EDGE), 300);
        is("two, EDGE first", x.gram(NONE, EDGE, 0, 400, 7), true);
        is("after of two, EDGE first", x.after(EDGE, EDGE, 0), 400);
        is("after with the backoff of two", x.after(EDGE, 0, EDGE), 307);
        is("two, EDGE twice", x.gram(NONE, EDGE, EDGE, 1, 1), true);
        is("three", x.gram(EDGE, 0, EDGE, 5, 0), true);
        is("after of three", x.after(EDGE, 0, EDGE), 5);
        is("in place", x.gram(EDGE, 0, EDGE, 6, 0), true);
        is("after of what is in place", x.after(EDGE, 0, EDGE), 6);
        is("in place, backoff", x.gram(NONE, NONE, EDGE, 20, 50), true);
        is("after of another backoff", x.after(EDGE, EDGE, 1), NONE);
        is("a word more", x.gram(NONE, NONE, 1, 0, 9999), true);
        is("after of another backoff", x.after(EDGE, EDGE, 1), 50);
        is("the largest", x.gram(3, 3, 3, 9999, 9999), true);
        is("the largest cost", x.after(3, 3, 3), 9999);
        is("the least", x.gram(3, 3, 3, 0, 0), true);
        is("the least cost", x.after(3, 3, 3), 0);
    }

    private static void gramRefused() {
        part = "3 gram, refused";
        WordTokenPasser x = new WordTokenPasser();
        for (int bad : WILD) {
            is("w " + bad, x.gram(NONE, NONE, bad, 0, 0), false);
            is("v " + bad, x.gram(NONE, bad, 0, 0, 0), false);
            is("v with u " + bad, x.gram(0, bad, 0, 0, 0), false);
            is("u " + bad, x.gram(bad, 0, 0, 0, 0), false);
            is("u without v " + bad, x.gram(bad, NONE, 0, 0, 0), false);
            if (bad < 0 || bad > 9999) {
                is("cost " + bad, x.gram(NONE, NONE, 0, bad, 0), false);
                is("backoff " + bad, x.gram(NONE, NONE, 0, 0, bad), false);
            }
        }
        is("w NONE", x.gram(NONE, NONE, NONE, 0, 0), false);
        is("w NONE, v a word", x.gram(NONE, 0, NONE, 0, 0), false);
        is("v NONE, u a word", x.gram(0, NONE, 0, 0, 0), false);
        is("v EDGE, u a word", x.gram(0, EDGE, 0, 0, 0), false);
        is("v EDGE, u EDGE", x.gram(EDGE, EDGE, 0, 0, 0), false);
        is("cost -1", x.gram(NONE, NONE, 0, -1, 0), false);
        is("backoff -1", x.gram(NONE, NONE, 0, 0, -1), false);
        is("nothing was put", x.ungram(NONE, NONE, 0), false);
        x.gram(NONE, NONE, 0, 7, 0);
        is("refused in place", x.gram(NONE, NONE, 0, 8, 10000), false);
        is("what it had stays", x.after(EDGE, EDGE, 0), 7);
    }

    private static void ungram() {
        part = "4 ungram";
        WordTokenPasser x = new WordTokenPasser();
        x.gram(NONE, NONE, 0, 1, 10);
        x.gram(NONE, 0, 0, 2, 100);
        x.gram(0, 0, 0, 3, 1000);
        is("three there", x.after(0, 0, 0), 3);
        is("three", x.ungram(0, 0, 0), true);
        is("three again", x.ungram(0, 0, 0), false);
        is("three gone", x.after(0, 0, 0), 102);
        is("two", x.ungram(NONE, 0, 0), true);
        is("two gone, its backoff too", x.after(0, 0, 0), 11);
        x.gram(NONE, 0, 0, 2, 0);
        is("one", x.ungram(NONE, NONE, 0), true);
        is("one gone, two there", x.after(EDGE, 0, 0), 2);
        x.ungram(NONE, 0, 0);
        x.gram(NONE, NONE, 1, 5, 0);
        is("one gone, its backoff too", x.after(EDGE, 0, 1), 5);
        x.ungram(NONE, NONE, 1);
        is("all gone", x.after(0, 0, 1), NONE);
        for (int bad : WILD) {
            is("w " + bad, x.ungram(NONE, NONE, bad), false);
            is("v " + bad, x.ungram(NONE, bad, 0), false);
            is("u " + bad, x.ungram(bad, 0, 0), false);
            is("all " + bad, x.ungram(bad, bad, bad), false);
        }
        x.gram(NONE, NONE, 0, 5, 0);
        is("u without v", x.ungram(0, NONE, 0), false);
        is("v EDGE, u a word", x.ungram(0, EDGE, 0), false);
        is("w NONE", x.ungram(NONE, NONE, NONE), false);
        is("the gram of one stays", x.after(EDGE, EDGE, 0), 5);
    }

    private static void after() {
        part = "5 after";
        WordTokenPasser x = new WordTokenPasser();
        x.gram(NONE, NONE, 2, 9999, 0);
        x.gram(NONE, NONE, 1, 0, 9999);
        is("backoff of one and cost of one", x.after(EDGE, 1, 2), 19998);
        x.gram(NONE, 0, 1, 0, 9999);
        is("backoff of two, of one, cost of one", x.after(0, 1, 2), 29997);
        is("another u", x.after(3, 1, 2), 19998);
        x.gram(NONE, EDGE, 1, 0, 5);
        is("backoff of EDGE, v", x.after(EDGE, 1, 2), 20003);
        is("no cost of w", x.after(0, 1, 3), NONE);
        is("no cost of EDGE", x.after(0, 1, EDGE), NONE);
        x.gram(NONE, 1, 3, 4, 0);
        is("two without one", x.after(EDGE, 1, 3), 9);
        x.gram(2, 3, 0, 8, 0);
        is("three alone", x.after(2, 3, 0), 8);
        is("three of others", x.after(3, 2, 0), NONE);
        is("v EDGE, u a word", x.after(0, EDGE, 2), NONE);
        is("v EDGE, u EDGE", x.after(EDGE, EDGE, 2), 9999);
        x.gram(NONE, EDGE, EDGE, 3, 77);
        is("EDGE after EDGE", x.after(EDGE, EDGE, EDGE), 3);
        is("v EDGE takes no backoff of EDGE, EDGE", x.after(EDGE, EDGE, 2), 9999);
        is("w NONE", x.after(EDGE, 1, NONE), NONE);
        is("v NONE", x.after(EDGE, NONE, 2), NONE);
        is("u NONE", x.after(NONE, 1, 2), NONE);
        is("u, v NONE", x.after(NONE, NONE, 2), NONE);
        is("u NONE, v EDGE", x.after(NONE, EDGE, 2), NONE);
        for (int bad : WILD) {
            is("w " + bad, x.after(EDGE, 1, bad), NONE);
            is("v " + bad, x.after(EDGE, bad, 2), NONE);
            is("u " + bad, x.after(bad, 1, 2), NONE);
            is("u, v EDGE " + bad, x.after(bad, EDGE, 2), NONE);
        }
    }

    private static void topology() {
        part = "6 topology";
        WordTokenPasser x = fourShortWords();
        is("state 0", x.topology(0, 1, 10), true);
        is("state 1", x.topology(1, 2, 100), true);
        is("state 2", x.topology(2, 4, 1000), true);
        frames(x, 3);
        is("leaving all", x.total(), 1110);
        x.frame();
        is("holding the cheapest", x.total(), 1111);
        x.topology(0, 9, 10);
        is("holding another", x.total(), 1112);
        x.topology(1, 9, 100);
        is("holding the last", x.total(), 1114);
        is("the largest", x.topology(2, 9999, 9999), true);
        is("largest leaving", x.total(), 10118);
        is("the least", x.topology(2, 0, 0), true);
        is("least", x.total(), 110);
        for (int bad : WILD) {
            is("s " + bad, x.topology(bad, 0, 0), false);
            if (bad < 0 || bad > 9999) {
                is("hold " + bad, x.topology(2, bad, 5), false);
                is("leave " + bad, x.topology(2, 5, bad), false);
            }
        }
        is("s -1", x.topology(-1, 0, 0), false);
        is("s 3", x.topology(3, 0, 0), false);
        is("hold -1", x.topology(2, -1, 5), false);
        is("leave -1", x.topology(2, 5, -1), false);
        is("hold 10000", x.topology(2, 10000, 5), false);
        is("leave 10000", x.topology(2, 5, 10000), false);
        is("refused ones change nothing", x.total(), 110);
    }

    private static void newFrameForgets(int phone, int state) {
        WordTokenPasser x = new WordTokenPasser();
        x.say(0, phone, NONE, NONE);
        x.gram(NONE, NONE, 0, 0, 0);
        x.gram(NONE, NONE, EDGE, 0, 0);
        frames(x, 3);
        for (int t = 2; t >= state; t--) {
            x.sound(t, phone, state, 60);
        }
        is("total with that cost", x.total(), 60);
        for (int t = 2; t >= state; t--) {
            x.drop();
        }
        frames(x, 3 - state);
        is("total with new frames", x.total(), 0);
    }

    private static void frameAndDrop() {
        part = "7 frame, 8 drop, 10 frames";
        WordTokenPasser x = fourShortWords();
        for (int i = 1; i <= 15; i++) {
            is("frame", x.frame(), i);
            is("frames", x.frames(), i);
        }
        is("the sixteenth", x.frame(), NONE);
        is("frames", x.frames(), 15);
        is("live(15) stays", x.live(15) > 0, true);
        for (int phone = 0; phone < 4; phone++) {
            for (int state = 0; state < 3; state++) {
                x.sound(14, phone, state, 50);
            }
        }
        is("best with the last frame's cost", x.best(15), 50);
        is("drop", x.drop(), true);
        is("frames", x.frames(), 14);
        is("best(15) without it", x.best(15), NONE);
        is("best(14) without it", x.best(14), 0);
        is("frame again", x.frame(), 15);
        is("a new frame's costs are 0", x.best(15), 0);
        for (int phone = 0; phone < 4; phone++) {
            for (int state = 0; state < 3; state++) {
                newFrameForgets(phone, state);
            }
        }
        for (int i = 14; i >= 0; i--) {
            is("drop", x.drop(), true);
            is("frames", x.frames(), i);
        }
        is("drop with none", x.drop(), false);
        is("frames", x.frames(), 0);
        is("frame", x.frame(), 1);
    }

    private static void sound() {
        part = "9 sound";
        WordTokenPasser x = fourShortWords();
        frames(x, 3);
        for (int w = 0; w < 4; w++) {
            for (int t = 0; t < 3; t++) {
                is("sound", x.sound(t, w, t, 1000 + 100 * w + 10 * t), true);
            }
        }
        is("total", x.total(), 3030);
        words(x, 0);
        is("in place", x.sound(1, 3, 1, 0), true);
        is("total", x.total(), 2620);
        words(x, 3);
        is("another state of that frame", x.sound(1, 3, 0, 9999), true);
        is("total", x.total(), 2620);
        is("the largest", x.sound(0, 3, 0, 9999), true);
        is("total", x.total(), 3030);
        for (int bad : WILD) {
            is("t " + bad, x.sound(bad, 0, 0, 5), false);
            is("phone " + bad, x.sound(0, bad, 0, 5), false);
            is("state " + bad, x.sound(0, 0, bad, 5), false);
            if (bad < 0 || bad > 9999) {
                is("c " + bad, x.sound(0, 0, 0, bad), false);
            }
        }
        is("t -1", x.sound(-1, 0, 0, 5), false);
        is("t 3", x.sound(3, 0, 0, 5), false);
        is("phone -1", x.sound(0, -1, 0, 5), false);
        is("phone 4", x.sound(0, 4, 0, 5), false);
        is("state -1", x.sound(0, 0, -1, 5), false);
        is("state 3", x.sound(0, 0, 3, 5), false);
        is("c -1", x.sound(0, 0, 0, -1), false);
        is("c 10000", x.sound(0, 0, 0, 10000), false);
        is("refused ones change nothing", x.total(), 3030);
        x.drop();
        is("a dropped frame", x.sound(2, 0, 0, 5), false);
    }

    private static void nodes() {
        part = "11 nodes";
        WordTokenPasser x = new WordTokenPasser();
        x.say(0, 0, 1, 2);
        is("nodes", x.nodes(), 3);
        x.say(1, 0, 1, 2);
        is("the same of another word", x.nodes(), 3);
        x.say(1, 0, 2, 2);
        is("a shared first phone", x.nodes(), 5);
        x.say(1, 2, NONE, NONE);
        is("a phone that is elsewhere later", x.nodes(), 6);
        frames(x, 2);
        is("frames change nothing", x.nodes(), 6);
    }

    private static void total() {
        part = "12 total";
        WordTokenPasser x = fourShortWords();
        x.gram(NONE, EDGE, EDGE, 0, 0);
        is("no frames", x.total(), NONE);
        frames(x, 2);
        is("too few frames for a word", x.total(), NONE);
        x.frame();
        is("a word", x.total(), 0);
        x.gram(NONE, NONE, EDGE, 40, 2);
        is("with EDGE at the end and its backoff before", x.total(), 42);
        x.gram(EDGE, 3, EDGE, 1, 0);
        is("EDGE after EDGE and the only word", x.total(), 3);
        words(x, 3);
        x.topology(2, 0, 500);
        is("with leaving the last state", x.total(), 503);
        is("best has none of these", x.best(3), 0);
        for (int w = 0; w < 4; w++) {
            x.ungram(NONE, NONE, w);
        }
        is("no cost of the last word", x.total(), NONE);
        words(x);
        is("best needs no cost of the last word", x.best(3), 0);
    }

    private static void largestTotal() {
        part = "12 total, the largest costs";
        WordTokenPasser x = new WordTokenPasser();
        x.say(2, 1, NONE, NONE);
        for (int w = 0; w <= EDGE; w++) {
            x.gram(NONE, NONE, w, 9999, 9999);
        }
        for (int s = 0; s < 3; s++) {
            x.topology(s, 9999, 9999);
        }
        for (int t = 0; t < 15; t++) {
            x.frame();
            for (int s = 0; s < 3; s++) {
                x.sound(t, 1, s, 9999);
            }
        }
        is("total", x.total(), 34 * 9999);
        is("best(15)", x.best(15), 29 * 9999);
        words(x, 2);
    }

    private static void fiveWords() {
        part = "13 length, 14 wordAt";
        WordTokenPasser x = fourShortWords();
        holdCosts(x, 9999);
        int[] said = {3, 0, 2, 1, 3};
        frames(x, 15);
        for (int t = 0; t < 15; t++) {
            for (int phone = 0; phone < 4; phone++) {
                for (int s = 0; s < 3; s++) {
                    x.sound(t, phone, s, phone == said[t / 3] ? 0 : 100);
                }
            }
        }
        is("total", x.total(), 0);
        words(x, said);
        for (int bad : WILD) {
            is("wordAt(" + bad + ")", x.wordAt(bad), NONE);
        }
        x.drop();
        is("length with a frame less", x.length(), 4);
        x.ungram(NONE, NONE, EDGE);
        is("total without EDGE", x.total(), NONE);
        words(x);
    }

    private static void contextsOfThree() {
        part = "12 total, grams of three";
        WordTokenPasser x = fourShortWords();
        holdCosts(x, 9999);
        frames(x, 9);
        for (int w = 0; w < 4; w++) {
            x.gram(NONE, NONE, w, 10, 0);
        }
        x.gram(EDGE, 1, 2, 15, 0);
        x.gram(1, 2, 3, 0, 0);
        x.gram(2, 3, EDGE, 1, 0);
        is("total", x.total(), 26);
        words(x, 1, 2, 3);
        x.gram(2, 3, EDGE, 6, 0);
        is("total", x.total(), 30);
        words(x, 0, 0, 0);
    }

    private static void fewestWords() {
        part = "13 length, the fewest words";
        WordTokenPasser x = new WordTokenPasser();
        for (int w = 0; w <= EDGE; w++) {
            x.gram(NONE, NONE, w, 0, 0);
        }
        x.say(0, 0, NONE, NONE);
        x.say(3, 1, 1, NONE);
        holdCosts(x, 1);
        frames(x, 6);
        is("total", x.total(), 0);
        words(x, 3);
        x.gram(NONE, NONE, 3, 1, 0);
        is("less cost goes before fewer words", x.total(), 0);
        words(x, 0, 0);
    }

    private static void leastWords() {
        part = "14 wordAt, the least words";
        WordTokenPasser x = new WordTokenPasser();
        for (int w = 3; w >= 0; w--) {
            x.say(w, 0, NONE, NONE);
        }
        for (int w = 0; w <= EDGE; w++) {
            x.gram(NONE, NONE, w, 0, 0);
        }
        holdCosts(x, 9);
        frames(x, 6);
        words(x, 0, 0);
        x.gram(NONE, 0, 0, 5, 0);
        words(x, 0, 1);
        x.gram(NONE, 0, 1, 5, 0);
        words(x, 0, 2);
        x.gram(NONE, 0, 2, 5, 0);
        x.gram(NONE, 0, 3, 5, 0);
        words(x, 1, 0);
        x.gram(NONE, EDGE, 1, 5, 0);
        x.gram(2, 0, EDGE, 5, 0);
        words(x, 2, 1);
        is("total", x.total(), 0);
    }

    private static void live() {
        part = "15 live";
        WordTokenPasser x = new WordTokenPasser();
        frames(x, 4);
        is("no pronunciations", x.live(1), 0);
        x.say(0, 0, NONE, NONE);
        is("live(0)", x.live(0), 0);
        is("live(1)", x.live(1), 1);
        is("live(2)", x.live(2), 2);
        is("live(3)", x.live(3), 3);
        is("no word after one without a cost", x.live(4), 3);
        x.gram(NONE, NONE, 0, 0, 0);
        is("a second word", x.live(4), 4);
        x.say(1, 0, NONE, NONE);
        is("the same node", x.live(3), 3);
        is("the other word has no cost", x.live(4), 4);
        x.gram(NONE, EDGE, 1, 9999, 0);
        is("after either word", x.live(4), 5);
        is("live(5) of 4 frames", x.live(5), 0);
        frames(x, 3);
        is("places with two words before", x.live(7), 11);
        for (int bad : WILD) {
            if (bad != 5 && bad != 6) {
                is("live(" + bad + ")", x.live(bad), 0);
            }
        }
        is("live(-1)", x.live(-1), 0);
        is("live(8)", x.live(8), 0);
    }

    private static void liveHasNoEdgeWithin() {
        part = "15 live, EDGE is no word";
        WordTokenPasser x = new WordTokenPasser();
        for (int w = 3; w >= 0; w--) {
            x.say(w, w, NONE, NONE);
        }
        for (int w = 0; w <= EDGE; w++) {
            x.gram(NONE, NONE, w, 0, 0);
        }
        frames(x, 7);
        is("live(3)", x.live(3), 12);
        is("live(4)", x.live(4), 12 + 4 * 4);
        is("live(7)", x.live(7), 12 + 4 * 12 + 16 * 4);
    }

    private static void best() {
        part = "16 best";
        WordTokenPasser x = new WordTokenPasser();
        frames(x, 6);
        is("no pronunciations", x.best(1), NONE);
        x.say(0, 0, NONE, NONE);
        is("best(0)", x.best(0), NONE);
        is("best(1)", x.best(1), 0);
        x.gram(NONE, NONE, 0, 7, 3);
        x.topology(0, 100, 1);
        x.topology(1, 100, 10);
        x.topology(2, 100, 20);
        x.sound(0, 0, 0, 1000);
        is("the first frame", x.best(1), 1000);
        is("leaving once", x.best(2), 1001);
        is("leaving twice", x.best(3), 1011);
        is("the word before and its leaving", x.best(4), 1038);
        is("best(6)", x.best(6), 1049);
        x.gram(NONE, NONE, 0, 200, 3);
        is("holding is cheaper than a word", x.best(4), 1111);
        x.sound(5, 0, 0, 4);
        is("later frames do not count", x.best(4), 1111);
        is("best(7)", x.best(7), NONE);
        is("best(-1)", x.best(-1), NONE);
        for (int bad : WILD) {
            if (bad != 5 && bad != 6) {
                is("best(" + bad + ")", x.best(bad), NONE);
            }
        }
    }

    /** What was found before a change must not be answered after it. */
    private static void answersFollowChanges() {
        part = "answers follow changes";
        WordTokenPasser x = fourShortWords();
        frames(x, 3);
        is("total", x.total(), 0);
        x.sound(0, 0, 0, 5);
        words(x, 1);
        x.gram(NONE, EDGE, 1, 5, 0);
        words(x, 2);
        x.ungram(NONE, EDGE, 1);
        words(x, 1);
        x.topology(2, 0, 6);
        is("total", x.total(), 6);
        x.frame();
        is("live(4)", x.live(4), 28);
        x.say(0, 0, 1, NONE);
        is("live(4)", x.live(4), 29);
        x.drop();
        is("live(4)", x.live(4), 0);
        is("a word refused", x.say(0, 0, 1, NONE), NONE);
        is("total", x.total(), 6);
    }

    public static void main(String[] args) {
        newObject();
        firstTopologyIsZero();
        say();
        sayTheSameAgain();
        sayMostNodes();
        sayRefused();
        gram();
        gramRefused();
        ungram();
        after();
        topology();
        frameAndDrop();
        sound();
        nodes();
        total();
        largestTotal();
        fiveWords();
        contextsOfThree();
        fewestWords();
        leastWords();
        live();
        liveHasNoEdgeWithin();
        best();
        answersFollowChanges();
        System.out.println(wrong == 0 ? "all promises hold" : wrong + " answers are not as due");
        if (wrong != 0) {
            System.exit(1);
        }
    }
}
