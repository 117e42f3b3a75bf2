import java.util.ArrayList;
import java.util.HashMap;
import java.util.HashSet;
import java.util.List;
import java.util.Map;
import java.util.Random;
import java.util.Set;

/** Random runs of calls, each answer compared with what comes of writing out every path one by one. */
public final class EnumerationTest {
    private static final int NONE = -1;
    private static final int EDGE = 4;

    private static int wrong = 0;

    /** The document's terms, taken word by word. */
    private static final class Model {
        private final List<int[]> pronunciations = new ArrayList<>();
        private final Map<List<Integer>, int[]> grams = new HashMap<>();
        private final List<int[][]> frames = new ArrayList<>();
        private final int[] hold = new int[3];
        private final int[] leave = new int[3];

        private List<Set<List<Integer>>> places;
        private int[] least;
        private int wholeCost;
        private List<Integer> wholeWords;

        int say(int w, int p, int q, int r) {
            boolean fits = in(w, 0, 3) && in(p, 0, 3) && in(q, -1, 3) && in(r, -1, 3) && (q != NONE || r == NONE);
            if (!fits || pronunciations.size() == 8) {
                return NONE;
            }
            for (int[] old : pronunciations) {
                if (old[0] == w && old[1] == p && old[2] == q && old[3] == r) {
                    return NONE;
                }
            }
            pronunciations.add(new int[] {w, p, q, r});
            return nodes();
        }

        int nodes() {
            Set<List<Integer>> beginnings = new HashSet<>();
            for (int[] one : pronunciations) {
                for (int i = 1; i < 4 && one[i] != NONE; i++) {
                    beginnings.add(beginning(one, i));
                }
            }
            return beginnings.size();
        }

        boolean gram(int u, int v, int w, int cost, int backoff) {
            boolean one = u == NONE && v == NONE && in(w, 0, 4);
            boolean two = u == NONE && in(v, 0, 4) && in(w, 0, 4);
            boolean three = in(u, 0, 4) && in(v, 0, 3) && in(w, 0, 4);
            if (!(one || two || three) || !in(cost, 0, 9999) || !in(backoff, 0, 9999)) {
                return false;
            }
            grams.put(List.of(u, v, w), new int[] {cost, backoff});
            return true;
        }

        boolean ungram(int u, int v, int w) {
            return grams.remove(List.of(u, v, w)) != null;
        }

        int after(int u, int v, int w) {
            if (!in(w, 0, 4) || !in(v, 0, 4) || !in(u, 0, 4) || v == EDGE && u != EDGE) {
                return NONE;
            }
            if (v == EDGE) {
                return two(v, w);
            }
            if (grams.containsKey(List.of(u, v, w))) {
                return grams.get(List.of(u, v, w))[0];
            }
            return two(v, w) == NONE ? NONE : backoff(NONE, u, v) + two(v, w);
        }

        private int two(int v, int w) {
            if (grams.containsKey(List.of(NONE, v, w))) {
                return grams.get(List.of(NONE, v, w))[0];
            }
            int[] one = grams.get(List.of(NONE, NONE, w));
            return one == null ? NONE : backoff(NONE, NONE, v) + one[0];
        }

        private int backoff(int u, int v, int w) {
            int[] gram = grams.get(List.of(u, v, w));
            return gram == null ? 0 : gram[1];
        }

        boolean topology(int s, int holding, int leaving) {
            if (!in(s, 0, 2) || !in(holding, 0, 9999) || !in(leaving, 0, 9999)) {
                return false;
            }
            hold[s] = holding;
            leave[s] = leaving;
            return true;
        }

        int frame() {
            if (frames.size() == 15) {
                return NONE;
            }
            frames.add(new int[4][3]);
            return frames.size();
        }

        boolean drop() {
            if (frames.isEmpty()) {
                return false;
            }
            frames.remove(frames.size() - 1);
            return true;
        }

        boolean sound(int t, int phone, int state, int c) {
            if (!in(t, 0, frames.size() - 1) || !in(phone, 0, 3) || !in(state, 0, 2) || !in(c, 0, 9999)) {
                return false;
            }
            frames.get(t)[phone][state] = c;
            return true;
        }

        void enumerate() {
            places = new ArrayList<>();
            least = new int[frames.size() + 1];
            wholeCost = NONE;
            wholeWords = List.of();
            for (int n = 0; n <= frames.size(); n++) {
                places.add(new HashSet<>());
                least[n] = NONE;
            }
            if (!frames.isEmpty()) {
                beginWord(0, 0, new ArrayList<>());
            }
        }

        private void beginWord(int t, int cost, List<Integer> before) {
            for (int[] one : pronunciations) {
                giveFrame(t, cost, before, one, 0);
            }
        }

        /** Frame t goes to the state at this position, 0 .. 8, of the pronunciation. */
        private void giveFrame(int t, int sum, List<Integer> before, int[] one, int position) {
            int state = position % 3;
            int phones = position / 3 + 1;
            int u = back(before, 2);
            int v = back(before, 1);
            int w = one[0];
            int cost = sum + frames.get(t)[one[phones]][state];
            int n = t + 1;
            List<Integer> place = new ArrayList<>(beginning(one, phones));
            place.addAll(List.of(100 + state, u, v));
            places.get(n).add(place);
            least[n] = least[n] == NONE ? cost : Math.min(least[n], cost);
            boolean last = state == 2 && (phones == 3 || one[phones + 1] == NONE);
            List<Integer> words = before;
            int ended = NONE;
            if (last && after(u, v, w) != NONE) {
                words = new ArrayList<>(before);
                words.add(w);
                ended = cost + leave[state] + after(u, v, w);
            }
            if (n == frames.size()) {
                if (ended != NONE && after(v, w, EDGE) != NONE) {
                    endPath(ended + after(v, w, EDGE), words);
                }
                return;
            }
            giveFrame(n, cost + hold[state], before, one, position);
            if (!last) {
                giveFrame(n, cost + leave[state], before, one, position + 1);
            } else if (ended != NONE) {
                beginWord(n, ended, words);
            }
        }

        private void endPath(int cost, List<Integer> words) {
            if (wholeCost == NONE || isBetter(cost, words)) {
                wholeCost = cost;
                wholeWords = words;
            }
        }

        private boolean isBetter(int cost, List<Integer> words) {
            if (cost != wholeCost) {
                return cost < wholeCost;
            }
            if (words.size() != wholeWords.size()) {
                return words.size() < wholeWords.size();
            }
            for (int i = 0; i < words.size(); i++) {
                if (!words.get(i).equals(wholeWords.get(i))) {
                    return words.get(i) < wholeWords.get(i);
                }
            }
            return false;
        }

        private static List<Integer> beginning(int[] one, int phones) {
            List<Integer> row = new ArrayList<>();
            for (int i = 1; i <= phones; i++) {
                row.add(one[i]);
            }
            return row;
        }

        private static int back(List<Integer> words, int steps) {
            return words.size() < steps ? EDGE : words.get(words.size() - steps);
        }

        private static boolean in(int x, int low, int high) {
            return x >= low && x <= high;
        }
    }

    private static final class Run {
        private final int number;
        private final Random random;
        private final int costs;
        private final int mostFrames;
        private final Model model = new Model();
        private final WordTokenPasser passer = new WordTokenPasser();
        private int calls = 0;

        Run(int number, int costs, int mostFrames) {
            this.number = number;
            this.random = new Random(number);
            this.costs = costs;
            this.mostFrames = mostFrames;
        }

        private void is(String call, int got, int want) {
            calls++;
            if (got != want) {
                wrong++;
                System.out.println("run " + number + ", call " + calls + ": " + call + " answered " + got + ", due is " + want);
            }
        }

        private void is(String call, boolean got, boolean want) {
            is(call, got ? 1 : 0, want ? 1 : 0);
        }

        private int cost() {
            return random.nextInt(40) == 0 ? random.nextInt(3) * 10000 - 10001 : random.nextInt(costs);
        }

        private int from(int low, int high) {
            return low + random.nextInt(high - low + 1);
        }

        private void say() {
            int w = random.nextInt(20) == 0 ? from(-2, 5) : from(0, 3);
            int p = random.nextInt(20) == 0 ? from(-2, 5) : from(0, 3);
            int q = random.nextInt(20) == 0 ? from(-2, 5) : from(-1, 1);
            int r = random.nextInt(20) == 0 ? from(-2, 5) : q == NONE ? NONE : from(-1, 1);
            is("say", passer.say(w, p, q, r), model.say(w, p, q, r));
        }

        private void gram() {
            int w = random.nextInt(30) == 0 ? from(-2, 6) : from(0, 4);
            int v = random.nextInt(3) == 0 ? NONE : from(-2, 5);
            int u = random.nextInt(3) == 0 ? from(-2, 5) : NONE;
            int c = cost();
            int b = cost();
            is("gram", passer.gram(u, v, w, c, b), model.gram(u, v, w, c, b));
        }

        private void change() {
            int kind = random.nextInt(20);
            if (kind < 2) {
                say();
            } else if (kind < 6) {
                gram();
            } else if (kind < 8) {
                int u = from(-1, 4);
                int v = from(-1, 4);
                int w = from(-1, 5);
                is("ungram", passer.ungram(u, v, w), model.ungram(u, v, w));
            } else if (kind < 10) {
                int s = from(-1, 3);
                int h = cost();
                int l = cost();
                is("topology", passer.topology(s, h, l), model.topology(s, h, l));
            } else if (kind < 12 && model.frames.size() < mostFrames) {
                is("frame", passer.frame(), model.frame());
            } else if (kind < 13) {
                is("drop", passer.drop(), model.drop());
            } else {
                int t = from(-1, model.frames.size());
                int phone = random.nextInt(20) == 0 ? from(-2, 5) : from(0, 3);
                int state = random.nextInt(20) == 0 ? from(-2, 4) : from(0, 2);
                int c = cost();
                is("sound", passer.sound(t, phone, state, c), model.sound(t, phone, state, c));
            }
        }

        private void look() {
            model.enumerate();
            int n = model.frames.size();
            is("frames", passer.frames(), n);
            is("nodes", passer.nodes(), model.nodes());
            is("total", passer.total(), model.wholeCost);
            is("length", passer.length(), model.wholeWords.size());
            for (int i = -1; i <= 5; i++) {
                boolean there = i >= 0 && i < model.wholeWords.size();
                is("wordAt", passer.wordAt(i), there ? model.wholeWords.get(i) : NONE);
            }
            for (int i = -1; i <= n + 1; i++) {
                boolean there = i >= 1 && i <= n;
                is("live", passer.live(i), there ? model.places.get(i).size() : 0);
                is("best", passer.best(i), there ? model.least[i] : NONE);
            }
            int u = from(-1, 5);
            int v = from(-1, 5);
            for (int w = -1; w <= 5; w++) {
                is("after", passer.after(u, v, w), model.after(u, v, w));
            }
        }

        void go(int looks) {
            for (int i = 0; i < 4; i++) {
                say();
            }
            for (int w = 0; w <= EDGE; w++) {
                if (random.nextInt(10) != 0) {
                    int c = cost();
                    int b = cost();
                    is("gram", passer.gram(NONE, NONE, w, c, b), model.gram(NONE, NONE, w, c, b));
                }
            }
            for (int i = random.nextInt(mostFrames + 1); i > 0; i--) {
                is("frame", passer.frame(), model.frame());
            }
            for (int i = 0; i < looks; i++) {
                for (int j = random.nextInt(12); j >= 0; j--) {
                    change();
                }
                look();
            }
        }
    }

    public static void main(String[] args) {
        // Few different costs make many paths of the same cost, which the order of words must part.
        int[] costs = {1, 2, 3, 10, 1000, 10000};
        for (int number = 0; number < 900; number++) {
            new Run(number, costs[number % costs.length], 10).go(5);
        }
        for (int number = 900; number < 930; number++) {
            new Run(number, costs[number % costs.length], 15).go(2);
        }
        System.out.println(wrong == 0 ? "all answers agree with every path" : wrong + " answers are not as due");
        if (wrong != 0) {
            System.exit(1);
        }
    }
}
