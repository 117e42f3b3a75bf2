import java.util.Arrays;

/**
 * Finds which words were said: from the costs of sounds in short frames of time, the pronunciations
 * of words, and the costs of words after words, the sequence of words of least cost.
 */
public final class WordTokenPasser {
    public static final int NONE = -1;

    private static final int WORDS = 4;
    private static final int EDGE = 4;
    private static final int PHONES = 4;
    private static final int STATES = 3;
    private static final int LAST_STATE = STATES - 1;
    private static final int COST_LIMIT = 9999;
    private static final int FRAME_LIMIT = 15;
    private static final int PRONUNCIATION_LIMIT = 8;

    private final Tree tree;
    private final Grams grams;
    private final Sounds sounds;
    private final Search search;
    private boolean searched;

    public WordTokenPasser() {
        tree = new Tree();
        grams = new Grams();
        sounds = new Sounds();
        search = new Search(tree, grams, sounds);
        searched = false;
    }

    public int say(int w, int p, int q, int r) {
        if (!isWord(w) || !isPronunciation(p, q, r) || tree.isFull() || tree.has(w, p, q, r)) {
            return NONE;
        }
        tree.add(w, p, q, r);
        searched = false;
        return tree.size();
    }

    public boolean gram(int u, int v, int w, int cost, int backoff) {
        if (!Grams.isGram(u, v, w) || !isCost(cost) || !isCost(backoff)) {
            return false;
        }
        grams.put(u, v, w, cost, backoff);
        searched = false;
        return true;
    }

    public boolean ungram(int u, int v, int w) {
        if (!Grams.isGram(u, v, w) || !grams.has(u, v, w)) {
            return false;
        }
        grams.remove(u, v, w);
        searched = false;
        return true;
    }

    public int after(int u, int v, int w) {
        if (!isWordOrEdge(w) || !isWordOrEdge(v) || !isWordOrEdge(u) || (v == EDGE && u != EDGE)) {
            return NONE;
        }
        return grams.costAfter(u, v, w);
    }

    public boolean topology(int s, int hold, int leave) {
        if (!isState(s) || !isCost(hold) || !isCost(leave)) {
            return false;
        }
        sounds.setTopology(s, hold, leave);
        searched = false;
        return true;
    }

    public int frame() {
        if (sounds.count() >= FRAME_LIMIT) {
            return NONE;
        }
        sounds.addFrame();
        searched = false;
        return sounds.count();
    }

    public boolean drop() {
        if (sounds.count() <= 0) {
            return false;
        }
        sounds.removeFrame();
        searched = false;
        return true;
    }

    public boolean sound(int t, int phone, int state, int c) {
        if (t < 0 || t >= sounds.count() || !isPhone(phone) || !isState(state) || !isCost(c)) {
            return false;
        }
        sounds.setCost(t, phone, state, c);
        searched = false;
        return true;
    }

    public int frames() {
        return sounds.count();
    }

    public int nodes() {
        return tree.size();
    }

    public int total() {
        return Token.costOf(searchOnce().wholePath());
    }

    public int length() {
        return Token.countOf(searchOnce().wholePath());
    }

    public int wordAt(int i) {
        return Token.wordOf(searchOnce().wholePath(), i);
    }

    public int live(int n) {
        return isFrameCount(n) ? searchOnce().placesAfter(n) : 0;
    }

    public int best(int n) {
        return isFrameCount(n) ? Token.costOf(searchOnce().leastAfter(n)) : NONE;
    }

    private Search searchOnce() {
        if (!searched) {
            search.run();
            searched = true;
        }
        return search;
    }

    private boolean isFrameCount(int n) {
        return n >= 1 && n <= sounds.count();
    }

    private static boolean isWord(int w) {
        return w >= 0 && w < WORDS;
    }

    private static boolean isWordOrEdge(int w) {
        return isWord(w) || w == EDGE;
    }

    private static boolean isPhone(int phone) {
        return phone >= 0 && phone < PHONES;
    }

    private static boolean isState(int s) {
        return s >= 0 && s < STATES;
    }

    private static boolean isCost(int c) {
        return c >= 0 && c <= COST_LIMIT;
    }

    private static boolean isPronunciation(int p, int q, int r) {
        if (!isPhone(p)) {
            return false;
        }
        return q == NONE ? r == NONE : isPhone(q) && (r == NONE || isPhone(r));
    }

    /** The beginnings of pronunciations. Node 0 is the root, and a parent has a lesser number than its children. */
    private static final class Tree {
        private static final int ROOT = 0;
        private static final int MOST_PHONES = 3;
        private static final int NODE_LIMIT = PRONUNCIATION_LIMIT * MOST_PHONES + 1;

        private final int[] phones;
        private final int[] parents;
        private final int[] children;
        private final boolean[] endings;
        private int size;
        private int pronunciations;

        Tree() {
            phones = new int[NODE_LIMIT];
            parents = new int[NODE_LIMIT];
            children = new int[NODE_LIMIT * PHONES];
            endings = new boolean[NODE_LIMIT * WORDS];
            size = 0;
            pronunciations = 0;
        }

        /** The root is not counted, so this is also the number of the newest node. */
        int size() {
            return size;
        }

        boolean isFull() {
            return pronunciations >= PRONUNCIATION_LIMIT;
        }

        int phoneOf(int node) {
            return phones[node];
        }

        int parentOf(int node) {
            return parents[node];
        }

        boolean endsWord(int node, int w) {
            return endings[node * WORDS + w];
        }

        boolean has(int w, int p, int q, int r) {
            int node = childOf(ROOT, p);
            if (node != NONE && q != NONE) {
                node = childOf(node, q);
            }
            if (node != NONE && r != NONE) {
                node = childOf(node, r);
            }
            return node != NONE && endsWord(node, w);
        }

        void add(int w, int p, int q, int r) {
            int node = grow(ROOT, p);
            if (q != NONE) {
                node = grow(node, q);
            }
            if (r != NONE) {
                node = grow(node, r);
            }
            endings[node * WORDS + w] = true;
            pronunciations++;
        }

        private int childOf(int node, int phone) {
            int child = children[node * PHONES + phone];
            // The root is nobody's child, so its number can stand for a child that is not there.
            return child == ROOT ? NONE : child;
        }

        private int grow(int node, int phone) {
            int child = childOf(node, phone);
            if (child != NONE) {
                return child;
            }
            size++;
            phones[size] = phone;
            parents[size] = node;
            children[node * PHONES + phone] = size;
            return size;
        }
    }

    /** The grams that are there, and the costs of words after words that follow from them. */
    private static final class Grams {
        /** A place of a gram holds a word, EDGE or NONE. */
        private static final int CHOICES = WORDS + 2;

        private final int[] costs;
        private final int[] backoffs;

        Grams() {
            costs = new int[CHOICES * CHOICES * CHOICES];
            backoffs = new int[CHOICES * CHOICES * CHOICES];
            Arrays.fill(costs, NONE);
        }

        static boolean isGram(int u, int v, int w) {
            if (!isWordOrEdge(w)) {
                return false;
            }
            if (u == NONE) {
                return v == NONE || isWordOrEdge(v);
            }
            return isWordOrEdge(u) && isWord(v);
        }

        boolean has(int u, int v, int w) {
            return costs[slot(u, v, w)] != NONE;
        }

        void put(int u, int v, int w, int cost, int backoff) {
            costs[slot(u, v, w)] = cost;
            backoffs[slot(u, v, w)] = backoff;
        }

        void remove(int u, int v, int w) {
            costs[slot(u, v, w)] = NONE;
            // A gram that is not there counts with the backoff 0.
            backoffs[slot(u, v, w)] = 0;
        }

        int costAfter(int u, int v, int w) {
            if (v == EDGE) {
                return costOfTwo(v, w);
            }
            int three = costs[slot(u, v, w)];
            if (three != NONE) {
                return three;
            }
            int two = costOfTwo(v, w);
            return two == NONE ? NONE : backoffs[slot(NONE, u, v)] + two;
        }

        private int costOfTwo(int v, int w) {
            int two = costs[slot(NONE, v, w)];
            if (two != NONE) {
                return two;
            }
            int one = costs[slot(NONE, NONE, w)];
            return one == NONE ? NONE : backoffs[slot(NONE, NONE, v)] + one;
        }

        private static int slot(int u, int v, int w) {
            // NONE is -1, so one is added to each to start from 0.
            return ((u + 1) * CHOICES + v + 1) * CHOICES + w + 1;
        }
    }

    /** The frames with their costs, and the costs of holding and leaving states. */
    private static final class Sounds {
        private static final int FRAME_COSTS = PHONES * STATES;

        private final int[] costs;
        private final int[] holds;
        private final int[] leaves;
        private int count;

        Sounds() {
            costs = new int[FRAME_LIMIT * FRAME_COSTS];
            holds = new int[STATES];
            leaves = new int[STATES];
            count = 0;
        }

        int count() {
            return count;
        }

        void addFrame() {
            // A dropped frame may have left its costs here.
            for (int i = 0; i < FRAME_COSTS; i++) {
                costs[count * FRAME_COSTS + i] = 0;
            }
            count++;
        }

        void removeFrame() {
            count--;
        }

        void setCost(int t, int phone, int state, int c) {
            costs[t * FRAME_COSTS + phone * STATES + state] = c;
        }

        int costOf(int t, int phone, int state) {
            return costs[t * FRAME_COSTS + phone * STATES + state];
        }

        void setTopology(int s, int hold, int leave) {
            holds[s] = hold;
            leaves[s] = leave;
        }

        int holdOf(int s) {
            return holds[s];
        }

        int leaveOf(int s) {
            return leaves[s];
        }
    }

    /**
     * A token is a path's cost, the number of its ended words and these words, packed in this order
     * into one number, so that of two tokens the lesser is that of the better path.
     */
    private static final class Token {
        /** Far above what the costs of a path can come to, so that every path is better than none. */
        private static final long DEAD = 1L << 62;
        private static final long START = 0L;
        /** A word takes three frames at least, so five words, of two bits each, are the most. */
        private static final int WORD_BITS = 2;
        private static final int COUNT_SHIFT = 10;
        private static final int COST_SHIFT = 16;
        private static final long WORDS_MASK = (1L << COUNT_SHIFT) - 1;
        private static final long COUNT_MASK = (1L << (COST_SHIFT - COUNT_SHIFT)) - 1;

        static long plusCost(long token, int cost) {
            return token == DEAD || cost == NONE ? DEAD : token + ((long) cost << COST_SHIFT);
        }

        static long plusWord(long token, int w) {
            if (token == DEAD) {
                return DEAD;
            }
            long words = (token & WORDS_MASK) << WORD_BITS | w;
            return (token & ~WORDS_MASK) + (1L << COUNT_SHIFT) + words;
        }

        static int costOf(long token) {
            return token == DEAD ? NONE : (int) (token >> COST_SHIFT);
        }

        static int countOf(long token) {
            return token == DEAD ? 0 : (int) (token >> COUNT_SHIFT & COUNT_MASK);
        }

        static int wordOf(long token, int i) {
            int count = countOf(token);
            if (i < 0 || i >= count) {
                return NONE;
            }
            return (int) (token >> (count - 1 - i) * WORD_BITS) & (WORDS - 1);
        }
    }

    /** Passes tokens through the tree, frame by frame, apart for every two words before (a context). */
    private static final class Search {
        /** What may stand before a word: a word or EDGE. */
        private static final int HISTORIES = WORDS + 1;
        private static final int CONTEXTS = HISTORIES * HISTORIES;

        private final Tree tree;
        private final Grams grams;
        private final Sounds sounds;
        /** The best token at each place: context, node, state. */
        private final long[] tokens;
        /** For each context the best token that waits at the root for the next frame. */
        private final long[] waiting;
        private final int[] placeCounts;
        private final long[] leastTokens;
        private long wholePath;

        Search(Tree tree, Grams grams, Sounds sounds) {
            this.tree = tree;
            this.grams = grams;
            this.sounds = sounds;
            tokens = new long[CONTEXTS * Tree.NODE_LIMIT * STATES];
            waiting = new long[CONTEXTS];
            placeCounts = new int[FRAME_LIMIT + 1];
            leastTokens = new long[FRAME_LIMIT + 1];
            wholePath = Token.DEAD;
        }

        int placesAfter(int n) {
            return placeCounts[n];
        }

        long leastAfter(int n) {
            return leastTokens[n];
        }

        long wholePath() {
            return wholePath;
        }

        void run() {
            Arrays.fill(tokens, Token.DEAD);
            Arrays.fill(waiting, Token.DEAD);
            waiting[context(EDGE, EDGE)] = Token.START;
            for (int t = 0; t < sounds.count(); t++) {
                for (int context = 0; context < CONTEXTS; context++) {
                    hear(t, context);
                }
                Arrays.fill(waiting, Token.DEAD);
                for (int context = 0; context < CONTEXTS; context++) {
                    endWords(context);
                }
                measure(t + 1);
            }
            endPath();
        }

        /** From the last place to the first, as a place needs the older tokens of those before it. */
        private void hear(int t, int context) {
            for (int node = tree.size(); node > Tree.ROOT; node--) {
                for (int state = LAST_STATE; state >= 0; state--) {
                    int place = place(context, node, state);
                    long held = Token.plusCost(tokens[place], sounds.holdOf(state));
                    long token = Math.min(held, coming(context, node, state));
                    tokens[place] = Token.plusCost(token, sounds.costOf(t, tree.phoneOf(node), state));
                }
            }
        }

        private long coming(int context, int node, int state) {
            if (state > 0) {
                return leaving(context, node, state - 1);
            }
            int parent = tree.parentOf(node);
            return parent == Tree.ROOT ? waiting[context] : leaving(context, parent, LAST_STATE);
        }

        private long leaving(int context, int node, int state) {
            return Token.plusCost(tokens[place(context, node, state)], sounds.leaveOf(state));
        }

        private void endWords(int context) {
            int u = context / HISTORIES;
            int v = context % HISTORIES;
            for (int node = Tree.ROOT + 1; node <= tree.size(); node++) {
                long token = leaving(context, node, LAST_STATE);
                for (int w = 0; w < WORDS; w++) {
                    if (token != Token.DEAD && tree.endsWord(node, w)) {
                        int next = context(v, w);
                        long ended = Token.plusWord(Token.plusCost(token, grams.costAfter(u, v, w)), w);
                        waiting[next] = Math.min(waiting[next], ended);
                    }
                }
            }
        }

        private void measure(int n) {
            int count = 0;
            long least = Token.DEAD;
            for (int place = 0; place < tokens.length; place++) {
                if (tokens[place] != Token.DEAD) {
                    count++;
                    least = Math.min(least, tokens[place]);
                }
            }
            placeCounts[n] = count;
            leastTokens[n] = least;
        }

        private void endPath() {
            wholePath = Token.DEAD;
            for (int u = 0; u <= EDGE; u++) {
                // The last word is a word: a path of none is not a whole path.
                for (int v = 0; v < WORDS; v++) {
                    long ended = Token.plusCost(waiting[context(u, v)], grams.costAfter(u, v, EDGE));
                    wholePath = Math.min(wholePath, ended);
                }
            }
        }

        private static int context(int u, int v) {
            return u * HISTORIES + v;
        }

        private static int place(int context, int node, int state) {
            return (context * Tree.NODE_LIMIT + node) * STATES + state;
        }
    }
}
