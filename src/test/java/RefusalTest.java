import java.util.ArrayList;
import java.util.List;
import java.util.function.Consumer;
import java.util.function.Predicate;

/**
 * "A call that is refused changes nothing": each refused call on an object of its own, in three
 * states, whose every later answer is that of an object on which the call was not made.
 */
public final class RefusalTest {
    private static final int NONE = WordTokenPasser.NONE;
    private static final int EDGE = 4;
    private static final int MOST_CALLS = 512;
    private static final int[] NO_NUMBERS = {Integer.MIN_VALUE, -10000, -2, 10000, 65536, Integer.MAX_VALUE};

    private static final List<String> names = new ArrayList<>();
    private static final List<Predicate<WordTokenPasser>> calls = new ArrayList<>();
    private static int wrong = 0;

    private static void refused(String name, Predicate<WordTokenPasser> call) {
        names.add(name);
        calls.add(call);
    }

    private static void say(int w, int p, int q, int r) {
        refused("say(" + w + ", " + p + ", " + q + ", " + r + ")", x -> x.say(w, p, q, r) == NONE);
    }

    private static void gram(int u, int v, int w, int cost, int backoff) {
        refused("gram(" + u + ", " + v + ", " + w + ", " + cost + ", " + backoff + ")",
            x -> !x.gram(u, v, w, cost, backoff));
    }

    private static void ungram(int u, int v, int w) {
        refused("ungram(" + u + ", " + v + ", " + w + ")", x -> !x.ungram(u, v, w));
    }

    private static void after(int u, int v, int w) {
        refused("after(" + u + ", " + v + ", " + w + ")", x -> x.after(u, v, w) == NONE);
    }

    private static void topology(int s, int hold, int leave) {
        refused("topology(" + s + ", " + hold + ", " + leave + ")", x -> !x.topology(s, hold, leave));
    }

    private static void sound(int t, int phone, int state, int c) {
        refused("sound(" + t + ", " + phone + ", " + state + ", " + c + ")", x -> !x.sound(t, phone, state, c));
    }

    private static void look(int n) {
        refused("wordAt(" + n + ")", x -> x.wordAt(n) == NONE);
        refused("live(" + n + ")", x -> x.live(n) == 0);
        refused("best(" + n + ")", x -> x.best(n) == NONE);
    }

    /** Refused in every state. */
    private static void collectAlwaysRefused() {
        say(-1, 0, 0, 0);
        say(4, 0, 0, 0);
        say(0, -1, NONE, NONE);
        say(0, -1, 0, 0);
        say(0, 4, NONE, NONE);
        say(0, 0, -2, NONE);
        say(0, 0, 4, NONE);
        say(0, 0, 0, -2);
        say(0, 0, 0, 4);
        say(0, 0, NONE, 0);
        say(0, 0, NONE, 4);
        gram(NONE, NONE, NONE, 1, 1);
        gram(NONE, NONE, 5, 1, 1);
        gram(NONE, 0, NONE, 1, 1);
        gram(NONE, -2, 0, 1, 1);
        gram(NONE, 5, 0, 1, 1);
        gram(-2, 0, 0, 1, 1);
        gram(5, 0, 0, 1, 1);
        gram(0, NONE, 0, 1, 1);
        gram(EDGE, NONE, 0, 1, 1);
        gram(0, EDGE, 0, 1, 1);
        gram(EDGE, EDGE, 0, 1, 1);
        gram(-2, NONE, 0, 1, 1);
        for (int bad : new int[] {-1, 10000}) {
            gram(NONE, NONE, 0, bad, 1);
            gram(NONE, NONE, 0, 1, bad);
            gram(NONE, 0, 2, bad, 1);
            gram(NONE, 0, 2, 1, bad);
            gram(0, 0, 3, bad, 1);
            gram(0, 0, 3, 1, bad);
            topology(0, bad, 1);
            topology(0, 1, bad);
            topology(2, bad, 1);
            topology(2, 1, bad);
            sound(0, 0, 0, bad);
            sound(13, 3, 2, bad);
        }
        ungram(NONE, NONE, NONE);
        ungram(NONE, NONE, 5);
        ungram(NONE, 5, 0);
        ungram(5, 0, 0);
        ungram(0, NONE, 0);
        ungram(0, EDGE, 0);
        ungram(EDGE, EDGE, EDGE);
        ungram(1, 0, 0);
        ungram(NONE, 0, 0);
        topology(-1, 1, 1);
        topology(3, 1, 1);
        sound(-1, 0, 0, 1);
        sound(15, 0, 0, 1);
        sound(0, -1, 0, 1);
        sound(0, 4, 0, 1);
        sound(0, 0, -1, 1);
        sound(0, 0, 3, 1);
        after(0, 0, NONE);
        after(0, NONE, 0);
        after(NONE, 0, 0);
        after(0, EDGE, 0);
        after(0, 0, 5);
        look(-1);
        look(16);
    }

    private static void collectFarNumbers() {
        for (int bad : NO_NUMBERS) {
            say(bad, 0, 0, 0);
            say(0, bad, 0, 0);
            say(0, 0, bad, 0);
            say(0, 0, 0, bad);
            gram(bad, 0, 0, 1, 1);
            gram(NONE, bad, 0, 1, 1);
            gram(NONE, NONE, bad, 1, 1);
            gram(NONE, NONE, 0, bad, 1);
            gram(NONE, NONE, 0, 1, bad);
            ungram(bad, 0, 0);
            ungram(NONE, bad, 0);
            ungram(NONE, NONE, bad);
            after(bad, 0, 0);
            after(0, bad, 0);
            after(0, 0, bad);
            topology(bad, 1, 1);
            topology(0, bad, 1);
            topology(0, 1, bad);
            sound(bad, 0, 0, 1);
            sound(0, bad, 0, 1);
            sound(0, 0, bad, 1);
            sound(0, 0, 0, bad);
            look(bad);
        }
    }

    private static void collectRefusedWhenEmpty() {
        refused("drop() with no frame", x -> !x.drop());
        sound(0, 0, 0, 1);
        ungram(NONE, NONE, 0);
        ungram(NONE, 0, 2);
        ungram(0, 0, 3);
        after(0, 0, 0);
        look(0);
        look(1);
    }

    private static void collectRefusedWhenNearlyFull() {
        say(0, 0, 1, NONE);
        say(1, 0, 1, 2);
        say(2, 3, NONE, NONE);
        sound(14, 0, 0, 1);
    }

    private static void collectRefusedWhenFull() {
        say(0, 0, 1, NONE);
        say(3, 0, NONE, NONE);
        say(0, 2, 3, 1);
        refused("frame() with 15", x -> x.frame() == NONE);
    }

    private static void makeEmpty(WordTokenPasser x) {
        x.frames();
    }

    /** A pronunciation and a frame less than the most; some grams there, some not. */
    private static void makeNearlyFull(WordTokenPasser x) {
        int[][] said = {{0, 0, 1, NONE}, {1, 0, 1, 2}, {2, 3, NONE, NONE}, {3, 0, 1, NONE}, {0, 3, NONE, NONE},
            {1, 2, 2, 2}, {2, 1, NONE, NONE}};
        for (int[] one : said) {
            x.say(one[0], one[1], one[2], one[3]);
        }
        for (int w = 0; w <= EDGE; w++) {
            x.gram(NONE, NONE, w, 11 + w, 21 + w);
            x.gram(NONE, w, (w + 2) % 5, 31 + w, 41 + w);
            x.gram(w, w % 4, (w + 3) % 5, 51 + w, 61 + w);
        }
        for (int s = 0; s < 3; s++) {
            x.topology(s, 3 + s, 7 + 2 * s);
        }
        for (int t = 0; t < 14; t++) {
            x.frame();
            for (int phone = 0; phone < 4; phone++) {
                x.sound(t, phone, t % 3, 1 + (t * 7 + phone * 5) % 13);
            }
        }
    }

    private static void makeFull(WordTokenPasser x) {
        makeNearlyFull(x);
        x.say(3, 2, 0, 3);
        x.frame();
    }

    private static void lookAtPaths(WordTokenPasser x, List<Integer> answers) {
        answers.add(x.frames());
        answers.add(x.nodes());
        answers.add(x.total());
        answers.add(x.length());
        for (int i = 0; i < 5; i++) {
            answers.add(x.wordAt(i));
        }
        for (int n = 1; n <= 15; n++) {
            answers.add(x.live(n));
            answers.add(x.best(n));
        }
    }

    private static void lookAtCosts(WordTokenPasser x, List<Integer> answers) {
        for (int v = 0; v <= EDGE; v++) {
            for (int u = v == EDGE ? EDGE : 0; u <= EDGE; u++) {
                for (int w = 0; w <= EDGE; w++) {
                    answers.add(x.after(u, v, w));
                }
            }
        }
    }

    /** What is wrong inside but does not show yet shows in what later calls answer. */
    private static void goOn(WordTokenPasser x, List<Integer> answers) {
        answers.add(x.say(0, 2, 3, 1));
        answers.add(x.say(1, 2, 3, 1));
        answers.add(x.frame());
        answers.add(x.frame());
        answers.add(x.total());
        answers.add(x.drop() ? 1 : 0);
        answers.add(x.total());
    }

    private static void takeAllGrams(WordTokenPasser x, List<Integer> answers) {
        for (int w = 0; w <= EDGE; w++) {
            for (int v = NONE; v <= EDGE; v++) {
                answers.add(x.ungram(NONE, v, w) ? 1 : 0);
                for (int u = 0; u <= EDGE && v != NONE && v != EDGE; u++) {
                    answers.add(x.ungram(u, v, w) ? 1 : 0);
                }
            }
        }
    }

    private static List<Integer> laterAnswers(WordTokenPasser x) {
        List<Integer> answers = new ArrayList<>();
        lookAtPaths(x, answers);
        lookAtCosts(x, answers);
        goOn(x, answers);
        takeAllGrams(x, answers);
        return answers;
    }

    private static void check(String state, Consumer<WordTokenPasser> make, int mostMakingCalls) {
        WordTokenPasser untouched = new WordTokenPasser();
        make.accept(untouched);
        List<Integer> due = laterAnswers(untouched);
        if (mostMakingCalls + 2 + due.size() > MOST_CALLS) {
            wrong++;
            System.out.println(state + ": more calls than an object is promised for");
        }
        for (int i = 0; i < calls.size(); i++) {
            for (int asked = 0; asked < 2; asked++) {
                WordTokenPasser x = new WordTokenPasser();
                make.accept(x);
                if (asked == 1) {
                    x.total();
                }
                if (!calls.get(i).test(x)) {
                    wrong++;
                    System.out.println(state + ": " + names.get(i) + " is not refused");
                }
                if (!laterAnswers(x).equals(due)) {
                    wrong++;
                    System.out.println(state + ": " + names.get(i) + " is refused, but changes something");
                }
            }
        }
        System.out.println(state + ": " + calls.size() + " refused calls");
        names.clear();
        calls.clear();
    }

    public static void main(String[] args) {
        collectAlwaysRefused();
        collectFarNumbers();
        collectRefusedWhenEmpty();
        check("an empty object", RefusalTest::makeEmpty, 1);

        collectAlwaysRefused();
        collectFarNumbers();
        collectRefusedWhenNearlyFull();
        check("a nearly full object", RefusalTest::makeNearlyFull, 95);

        collectAlwaysRefused();
        collectFarNumbers();
        collectRefusedWhenFull();
        check("a full object", RefusalTest::makeFull, 97);

        System.out.println(wrong == 0 ? "refused calls change nothing" : wrong + " refused calls are not as due");
        if (wrong != 0) {
            System.exit(1);
        }
    }
}
