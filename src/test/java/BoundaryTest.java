/**
 * Each boundary case that a sentence of the document names: one test of its own each, on new
 * objects, with the sentence as its name. That refused calls change nothing is in RefusalTest.
 */
public final class BoundaryTest {
    private static final int NONE = WordTokenPasser.NONE;
    private static final int EDGE = 4;
    private static final int LOW = Integer.MIN_VALUE;
    private static final int HIGH = Integer.MAX_VALUE;

    private static int wrong = 0;
    private static int tests = 0;
    private static String name = "";

    private static void test(String sentence, Runnable body) {
        tests++;
        name = sentence;
        try {
            body.run();
        } catch (RuntimeException thrown) {
            wrong++;
            System.out.println(name + ": threw " + thrown);
        }
    }

    private static void is(long got, long want) {
        if (got != want) {
            wrong++;
            StackTraceElement[] stack = new Throwable().getStackTrace();
            int at = stack[1].getMethodName().equals("is") ? 2 : 1;
            System.out.println(name + " (line " + stack[at].getLineNumber() + "): answered " + got + ", due is " + want);
        }
    }

    private static void is(boolean got, boolean want) {
        is(got ? 1 : 0, want ? 1 : 0);
    }

    private static void words(WordTokenPasser x, int... want) {
        is(x.length(), want.length);
        for (int i = 0; i < 5; i++) {
            is(x.wordAt(i), i < want.length ? want[i] : NONE);
        }
    }

    private static WordTokenPasser empty() {
        return new WordTokenPasser();
    }

    private static WordTokenPasser withFrames(WordTokenPasser x, int n) {
        for (int i = 0; i < n; i++) {
            x.frame();
        }
        return x;
    }

    /** All words and EDGE cost nothing after anything. */
    private static WordTokenPasser withFreeWords() {
        WordTokenPasser x = empty();
        for (int w = 0; w <= EDGE; w++) {
            x.gram(NONE, NONE, w, 0, 0);
        }
        return x;
    }

    /** Word 0 alone, with these phones. */
    private static WordTokenPasser oneWord(int p, int q, int r) {
        WordTokenPasser x = withFreeWords();
        x.say(0, p, q, r);
        return x;
    }

    /** Each word has the one phone of its number. */
    private static WordTokenPasser fourWords() {
        WordTokenPasser x = withFreeWords();
        for (int w = 0; w < 4; w++) {
            x.say(w, w, NONE, NONE);
        }
        return x;
    }

    private static void holdAt(WordTokenPasser x, int cost) {
        for (int s = 0; s < 3; s++) {
            x.topology(s, cost, 0);
        }
    }

    private static void soundAll(WordTokenPasser x, int t, int c) {
        for (int phone = 0; phone < 4; phone++) {
            for (int state = 0; state < 3; state++) {
                x.sound(t, phone, state, c);
            }
        }
    }

    private static boolean isWord(int w) {
        return w >= 0 && w < EDGE;
    }

    private static boolean isWordOrEdge(int w) {
        return isWord(w) || w == EDGE;
    }

    private static boolean isGram(int u, int v, int w) {
        boolean one = u == NONE && v == NONE;
        boolean two = u == NONE && isWordOrEdge(v);
        boolean three = isWordOrEdge(u) && isWord(v);
        return isWordOrEdge(w) && (one || two || three);
    }

    private static void use() {
        test("An object is used for at most 512 calls: the 512th still answers", () -> {
            WordTokenPasser x = withFreeWords();
            int[][] said = {{0, NONE, NONE}, {0, 0, NONE}, {0, 1, NONE}, {0, 2, NONE}, {0, 3, NONE}, {0, 0, 0},
                {0, 1, 1}, {0, 2, 2}};
            for (int[] one : said) {
                x.say(0, one[0], one[1], one[2]);
            }
            withFrames(x, 15);
            int calls = 5 + 8 + 15;
            while (calls + 2 <= 512) {
                is(x.sound(0, 0, 0, calls), true);
                is(x.total(), calls);
                calls += 2;
            }
            is(calls, 512);
        });
    }

    private static void newObject() {
        test("1: No pronunciations", () -> {
            WordTokenPasser x = withFrames(withFreeWords(), 3);
            is(x.nodes(), 0);
            is(x.live(1), 0);
            is(x.best(1), NONE);
            is(x.total(), NONE);
        });
        test("1: no grams", () -> {
            WordTokenPasser x = empty();
            for (int w = 0; w <= EDGE; w++) {
                for (int v = NONE; v <= EDGE; v++) {
                    for (int u = NONE; u <= EDGE; u++) {
                        is(x.ungram(u, v, w), false);
                    }
                }
            }
        });
        test("1: no grams, so no cost of any word after any", () -> {
            WordTokenPasser x = empty();
            for (int w = 0; w <= EDGE; w++) {
                for (int v = 0; v <= EDGE; v++) {
                    for (int u = 0; u <= EDGE; u++) {
                        is(x.after(u, v, w), NONE);
                    }
                }
            }
        });
        test("1: no frames", () -> {
            is(empty().frames(), 0);
            is(empty().drop(), false);
            is(empty().sound(0, 0, 0, 0), false);
        });
        test("1: one object's calls do not show in another", () -> {
            WordTokenPasser x = withFrames(fourWords(), 3);
            is(x.total(), 0);
            is(empty().nodes(), 0);
            is(empty().frames(), 0);
            is(empty().after(EDGE, EDGE, 0), NONE);
        });
        test("Terms: holding costs 0 at first", () -> is(withFrames(oneWord(0, NONE, NONE), 5).total(), 0));
        test("Terms: leaving costs 0 at first", () -> is(withFrames(oneWord(0, 1, 2), 9).total(), 0));
    }

    private static void sayNumbers() {
        test("2: w is no word, too small", () -> is(empty().say(-1, 0, 0, 0), NONE));
        test("2: w is no word, EDGE", () -> is(empty().say(EDGE, 0, 0, 0), NONE));
        test("2: w is no word, far", () -> {
            is(empty().say(LOW, 0, 0, 0), NONE);
            is(empty().say(HIGH, 0, 0, 0), NONE);
        });
        test("2: w the least word", () -> is(empty().say(0, 0, 0, 0), 3));
        test("2: w the largest word", () -> is(empty().say(3, 0, 0, 0), 3));
        test("2: p no phone, too small or NONE", () -> {
            is(empty().say(0, -1, 0, 0), NONE);
            is(empty().say(0, NONE, NONE, NONE), NONE);
            is(empty().say(0, -2, 0, 0), NONE);
            is(empty().say(0, LOW, 0, 0), NONE);
        });
        test("2: p no phone, too large", () -> {
            is(empty().say(0, 4, 0, 0), NONE);
            is(empty().say(0, HIGH, 0, 0), NONE);
        });
        test("2: p the least and the largest phone", () -> {
            is(empty().say(0, 0, NONE, NONE), 1);
            is(empty().say(0, 3, NONE, NONE), 1);
        });
        test("2: q neither a phone nor NONE, too small", () -> {
            is(empty().say(0, 0, -2, NONE), NONE);
            is(empty().say(0, 0, -2, 0), NONE);
            is(empty().say(0, 0, LOW, NONE), NONE);
        });
        test("2: q neither a phone nor NONE, too large", () -> {
            is(empty().say(0, 0, 4, NONE), NONE);
            is(empty().say(0, 0, 4, 0), NONE);
            is(empty().say(0, 0, HIGH, NONE), NONE);
        });
        test("2: q the least and the largest phone", () -> {
            is(empty().say(0, 0, 0, NONE), 2);
            is(empty().say(0, 0, 3, NONE), 2);
        });
        test("2: r neither a phone nor NONE, too small", () -> {
            is(empty().say(0, 0, 0, -2), NONE);
            is(empty().say(0, 0, NONE, -2), NONE);
            is(empty().say(0, 0, 0, LOW), NONE);
        });
        test("2: r neither a phone nor NONE, too large", () -> {
            is(empty().say(0, 0, 0, 4), NONE);
            is(empty().say(0, 0, NONE, 4), NONE);
            is(empty().say(0, 0, 0, HIGH), NONE);
        });
        test("2: r the least and the largest phone", () -> {
            is(empty().say(0, 0, 0, 0), 3);
            is(empty().say(0, 0, 0, 3), 3);
        });
        test("2: r is a phone while q is NONE", () -> {
            for (int r = 0; r < 4; r++) {
                is(empty().say(0, 0, NONE, r), NONE);
            }
        });
        test("2: r, or q and r, are NONE for shorter ones", () -> {
            is(empty().say(0, 1, 2, 3), 3);
            is(empty().say(0, 1, 2, NONE), 2);
            is(empty().say(0, 1, NONE, NONE), 1);
        });
    }

    private static void sayAgain() {
        test("2: the word has it already, one phone", () -> {
            WordTokenPasser x = empty();
            is(x.say(1, 2, NONE, NONE), 1);
            is(x.say(1, 2, NONE, NONE), NONE);
        });
        test("2: the word has it already, two phones", () -> {
            WordTokenPasser x = empty();
            is(x.say(1, 2, 2, NONE), 2);
            is(x.say(1, 2, 2, NONE), NONE);
        });
        test("2: the word has it already, three phones", () -> {
            WordTokenPasser x = empty();
            is(x.say(1, 2, 2, 2), 3);
            is(x.say(1, 2, 2, 2), NONE);
        });
        test("2: the word has it already, after others of that word and of others", () -> {
            WordTokenPasser x = empty();
            x.say(1, 0, 1, 2);
            x.say(1, 0, 1, 3);
            x.say(2, 0, 1, 3);
            is(x.say(1, 0, 1, 2), NONE);
            is(x.say(2, 0, 1, 2), 4);
        });
        test("2: a beginning of what the word has is not what it has", () -> {
            WordTokenPasser x = empty();
            is(x.say(1, 0, 1, 2), 3);
            is(x.say(1, 0, 1, NONE), 3);
            is(x.say(1, 0, NONE, NONE), 3);
        });
        test("2: a longer one than the word has is not what it has", () -> {
            WordTokenPasser x = empty();
            is(x.say(1, 0, NONE, NONE), 1);
            is(x.say(1, 0, 0, NONE), 2);
            is(x.say(1, 0, 0, 0), 3);
        });
        test("Terms: no two of the same word alike, of different words they may be", () -> {
            WordTokenPasser x = empty();
            for (int w = 0; w < 4; w++) {
                is(x.say(w, 0, 1, NONE), 2);
            }
        });
    }

    private static void sayMost() {
        test("2: 8 are there", () -> {
            WordTokenPasser x = empty();
            for (int i = 0; i < 8; i++) {
                is(x.say(i / 4, i % 4, NONE, NONE), i < 4 ? i + 1 : 4);
            }
            is(x.say(2, 0, 0, NONE), NONE);
            is(x.nodes(), 4);
        });
        test("2: 8 are there, a ninth without a new node", () -> {
            WordTokenPasser x = empty();
            for (int i = 0; i < 8; i++) {
                x.say(i / 4, i % 4, NONE, NONE);
            }
            is(x.say(2, 0, NONE, NONE), NONE);
            withFrames(x, 4);
            is(x.live(3), 12);
        });
        test("2: 8 are there, all of one word", () -> {
            WordTokenPasser x = empty();
            for (int i = 0; i < 8; i++) {
                is(x.say(3, 0, i / 4, i % 4), i < 4 ? i + 3 : i + 4);
            }
            is(x.say(3, 1, NONE, NONE), NONE);
            is(x.say(0, 1, NONE, NONE), NONE);
        });
        test("2: refused ones do not count towards the 8", () -> {
            WordTokenPasser x = empty();
            for (int i = 0; i < 8; i++) {
                is(x.say(i / 4, i % 4, NONE, NONE) == NONE, false);
                is(x.say(i / 4, i % 4, NONE, NONE), NONE);
                is(x.say(0, 0, NONE, 0), NONE);
            }
            is(x.say(3, 3, NONE, NONE), NONE);
        });
        test("11: the largest tree that 8 can make", () -> {
            WordTokenPasser x = empty();
            for (int i = 0; i < 8; i++) {
                x.say(0, i % 4, i / 4, 0);
            }
            is(x.nodes(), 20);
            withFrames(x, 9);
            is(x.live(9), 60);
        });
        test("11: the smallest tree that 8 can make", () -> {
            WordTokenPasser x = empty();
            for (int w = 0; w < 4; w++) {
                x.say(w, 0, 0, NONE);
                x.say(w, 0, NONE, NONE);
            }
            is(x.nodes(), 2);
        });
    }

    private static void gramForms() {
        test("3: every gram of one, two and three, and nothing else, near the numbers", () -> {
            int there = 0;
            for (int u = -3; u <= 7; u++) {
                for (int v = -3; v <= 7; v++) {
                    WordTokenPasser x = empty();
                    for (int w = -3; w <= 7; w++) {
                        is(x.gram(u, v, w, 1, 1), isGram(u, v, w));
                        there += isGram(u, v, w) ? 1 : 0;
                    }
                }
            }
            is(there, 5 + 25 + 100);
        });
        test("3: no gram stands for another", () -> {
            for (int i = 0; i < 216; i++) {
                int u = i / 36 - 1;
                int v = i / 6 % 6 - 1;
                int w = i % 6 - 1;
                WordTokenPasser x = empty();
                is(x.gram(u, v, w, 1, 1), isGram(u, v, w));
                for (int j = 0; j < 216; j++) {
                    is(x.ungram(j / 36 - 1, j / 6 % 6 - 1, j % 6 - 1), j == i && isGram(u, v, w));
                }
            }
        });
        test("3: w is neither a word nor EDGE", () -> {
            for (int w : new int[] {LOW, -2, NONE, 5, HIGH}) {
                is(empty().gram(NONE, NONE, w, 0, 0), false);
                is(empty().gram(NONE, 0, w, 0, 0), false);
                is(empty().gram(0, 0, w, 0, 0), false);
            }
        });
        test("3: v neither that nor NONE", () -> {
            for (int v : new int[] {LOW, -2, 5, HIGH}) {
                is(empty().gram(NONE, v, 0, 0, 0), false);
                is(empty().gram(0, v, 0, 0, 0), false);
            }
        });
        test("3: u likewise", () -> {
            for (int u : new int[] {LOW, -2, 5, HIGH}) {
                is(empty().gram(u, 0, 0, 0, 0), false);
                is(empty().gram(u, NONE, 0, 0, 0), false);
                is(empty().gram(u, EDGE, 0, 0, 0), false);
            }
        });
        test("3: with u not NONE, v is not a word, NONE", () -> {
            for (int u = 0; u <= EDGE; u++) {
                is(empty().gram(u, NONE, 0, 0, 0), false);
            }
        });
        test("3: with u not NONE, v is not a word, EDGE", () -> {
            for (int u = 0; u <= EDGE; u++) {
                is(empty().gram(u, EDGE, 0, 0, 0), false);
            }
        });
    }

    private static void gramCosts() {
        test("3: a cost too small", () -> {
            is(empty().gram(NONE, NONE, 0, -1, 0), false);
            is(empty().gram(NONE, 0, 0, LOW, 0), false);
        });
        test("3: a cost too large", () -> {
            is(empty().gram(NONE, NONE, 0, 10000, 0), false);
            is(empty().gram(0, 0, 0, HIGH, 0), false);
        });
        test("3: the least cost is a cost", () -> {
            WordTokenPasser x = empty();
            is(x.gram(NONE, NONE, 0, 0, 0), true);
            is(x.after(EDGE, EDGE, 0), 0);
            is(x.ungram(NONE, NONE, 0), true);
        });
        test("3: the largest cost", () -> {
            WordTokenPasser x = empty();
            is(x.gram(NONE, NONE, 0, 9999, 0), true);
            is(x.after(EDGE, EDGE, 0), 9999);
        });
        test("3: a backoff too small", () -> {
            is(empty().gram(NONE, NONE, 0, 0, -1), false);
            is(empty().gram(NONE, 0, 0, 0, LOW), false);
        });
        test("3: a backoff too large", () -> {
            is(empty().gram(NONE, NONE, 0, 0, 10000), false);
            is(empty().gram(0, 0, 0, 0, HIGH), false);
        });
        test("3: the largest and the least backoff", () -> {
            WordTokenPasser x = empty();
            x.gram(NONE, NONE, 1, 0, 0);
            is(x.gram(NONE, NONE, 0, 0, 9999), true);
            is(x.after(EDGE, 0, 1), 9999);
            is(x.gram(NONE, NONE, 0, 0, 0), true);
            is(x.after(EDGE, 0, 1), 0);
        });
        test("3: in place of what it had, the cost", () -> {
            WordTokenPasser x = empty();
            is(x.gram(1, 2, 3, 5, 0), true);
            is(x.gram(1, 2, 3, 9, 0), true);
            is(x.after(1, 2, 3), 9);
            is(x.gram(1, 2, 3, 5, 0), true);
            is(x.after(1, 2, 3), 5);
        });
        test("3: in place of what it had, the backoff", () -> {
            WordTokenPasser x = empty();
            x.gram(NONE, NONE, 3, 1, 0);
            x.gram(NONE, 1, 2, 0, 50);
            is(x.after(1, 2, 3), 51);
            x.gram(NONE, 1, 2, 0, 20);
            is(x.after(1, 2, 3), 21);
        });
    }

    private static void ungram() {
        test("4: refused when it is not there, never put", () -> is(withFreeWords().ungram(NONE, 0, 0), false));
        test("4: refused when it is not there, taken already", () -> {
            WordTokenPasser x = withFreeWords();
            is(x.ungram(NONE, NONE, EDGE), true);
            is(x.ungram(NONE, NONE, EDGE), false);
        });
        test("4: refused when it is not there, put but refused", () -> {
            WordTokenPasser x = empty();
            x.gram(NONE, 0, 0, 10000, 0);
            is(x.ungram(NONE, 0, 0), false);
        });
        test("4: put twice, it is taken once", () -> {
            WordTokenPasser x = empty();
            x.gram(EDGE, 0, EDGE, 1, 1);
            x.gram(EDGE, 0, EDGE, 2, 2);
            is(x.ungram(EDGE, 0, EDGE), true);
            is(x.ungram(EDGE, 0, EDGE), false);
        });
        test("4: numbers of no gram", () -> {
            WordTokenPasser x = withFreeWords();
            for (int bad : new int[] {LOW, -2, 5, HIGH}) {
                is(x.ungram(bad, 0, 0), false);
                is(x.ungram(NONE, bad, 0), false);
                is(x.ungram(NONE, NONE, bad), false);
            }
            is(x.ungram(NONE, NONE, NONE), false);
            is(x.ungram(0, NONE, 0), false);
            is(x.ungram(0, EDGE, 0), false);
        });
        test("4: takes the gram alone, not a shorter one", () -> {
            WordTokenPasser x = empty();
            x.gram(NONE, NONE, 2, 1, 0);
            x.gram(NONE, 1, 2, 10, 0);
            x.gram(0, 1, 2, 100, 0);
            is(x.after(0, 1, 2), 100);
            is(x.ungram(0, 1, 2), true);
            is(x.after(0, 1, 2), 10);
            is(x.ungram(NONE, 1, 2), true);
            is(x.after(0, 1, 2), 1);
            is(x.ungram(NONE, NONE, 2), true);
            is(x.after(0, 1, 2), NONE);
        });
        test("4: takes the gram alone, not a longer one", () -> {
            WordTokenPasser x = empty();
            x.gram(NONE, NONE, 2, 1, 0);
            x.gram(NONE, 1, 2, 10, 0);
            x.gram(0, 1, 2, 100, 0);
            is(x.ungram(NONE, NONE, 2), true);
            is(x.after(3, 1, 2), 10);
            is(x.ungram(NONE, 1, 2), true);
            is(x.after(0, 1, 2), 100);
        });
        test("4: the backoff goes with the gram, and does not come again", () -> {
            WordTokenPasser x = empty();
            x.gram(NONE, NONE, 3, 1, 0);
            x.gram(NONE, NONE, 1, 0, 70);
            is(x.after(EDGE, 1, 3), 71);
            x.ungram(NONE, NONE, 1);
            is(x.after(EDGE, 1, 3), 1);
            x.gram(NONE, NONE, 1, 0, 0);
            is(x.after(EDGE, 1, 3), 1);
        });
        test("4: the backoff of a gram of two goes with it", () -> {
            for (int u = 0; u <= EDGE; u++) {
                WordTokenPasser x = empty();
                x.gram(NONE, NONE, 3, 1, 0);
                x.gram(NONE, u, 1, 0, 70);
                is(x.after(u, 1, 3), 71);
                x.ungram(NONE, u, 1);
                is(x.after(u, 1, 3), 1);
            }
        });
        test("4: what was found before is found anew without the gram", () -> {
            WordTokenPasser x = withFrames(oneWord(0, NONE, NONE), 3);
            is(x.total(), 0);
            x.ungram(NONE, NONE, EDGE);
            is(x.total(), NONE);
        });
    }

    private static void afterCosts() {
        test("5: v is a word and the gram u, v, w is there, though it is dearer", () -> {
            WordTokenPasser x = withFreeWords();
            x.gram(0, 1, 2, 9999, 0);
            is(x.after(0, 1, 2), 9999);
        });
        test("5: the gram u, v, w alone is enough, with u or w EDGE too", () -> {
            WordTokenPasser x = empty();
            x.gram(EDGE, 1, EDGE, 6, 0);
            is(x.after(EDGE, 1, EDGE), 6);
            is(x.after(0, 1, EDGE), NONE);
            is(x.after(EDGE, 1, 0), NONE);
        });
        test("5: not there, the backoff of the gram u, v and TWO(v, w)", () -> {
            WordTokenPasser x = empty();
            x.gram(NONE, 1, 2, 10, 500);
            x.gram(NONE, 0, 1, 700, 3);
            is(x.after(0, 1, 2), 13);
        });
        test("5: not there, u EDGE, the backoff of the gram EDGE, v", () -> {
            WordTokenPasser x = empty();
            x.gram(NONE, 1, EDGE, 10, 500);
            x.gram(NONE, EDGE, 1, 700, 4);
            is(x.after(EDGE, 1, EDGE), 14);
        });
        test("5: 0 if the gram u, v is not there", () -> {
            WordTokenPasser x = empty();
            x.gram(NONE, 1, 2, 10, 500);
            is(x.after(0, 1, 2), 10);
            is(x.after(EDGE, 1, 2), 10);
        });
        test("5: if v is EDGE, TWO(v, w), the gram EDGE, w", () -> {
            WordTokenPasser x = withFreeWords();
            x.gram(NONE, EDGE, 2, 8, 0);
            is(x.after(EDGE, EDGE, 2), 8);
        });
        test("5: if v is EDGE, TWO(v, w), the backoff of EDGE and the gram w", () -> {
            WordTokenPasser x = empty();
            x.gram(NONE, NONE, 2, 8, 0);
            x.gram(NONE, NONE, EDGE, 300, 20);
            is(x.after(EDGE, EDGE, 2), 28);
        });
        test("5: if v is EDGE, no backoff of a gram EDGE, EDGE", () -> {
            WordTokenPasser x = empty();
            x.gram(NONE, NONE, 2, 8, 0);
            x.gram(NONE, EDGE, EDGE, 300, 20);
            is(x.after(EDGE, EDGE, 2), 8);
        });
        test("5: EDGE after EDGE, EDGE", () -> {
            WordTokenPasser x = empty();
            x.gram(NONE, NONE, EDGE, 5, 20);
            is(x.after(EDGE, EDGE, EDGE), 25);
            x.gram(NONE, EDGE, EDGE, 7, 0);
            is(x.after(EDGE, EDGE, EDGE), 7);
        });
        test("5: TWO(v, w) is the cost of the gram v, w, though it is dearer", () -> {
            WordTokenPasser x = withFreeWords();
            x.gram(NONE, 3, 0, 9999, 0);
            is(x.after(EDGE, 3, 0), 9999);
        });
        test("5: TWO(v, w), the backoff of the gram v 0 if that is not there", () -> {
            WordTokenPasser x = empty();
            x.gram(NONE, NONE, 0, 9, 0);
            is(x.after(EDGE, 3, 0), 9);
            x.gram(NONE, NONE, 3, 0, 30);
            is(x.after(EDGE, 3, 0), 39);
        });
        test("5: a backoff of three stands for nothing", () -> {
            WordTokenPasser x = empty();
            x.gram(NONE, NONE, 2, 1, 0);
            x.gram(0, 1, 1, 0, 9999);
            x.gram(0, 0, 1, 0, 9999);
            is(x.after(0, 1, 2), 1);
            is(x.after(1, 1, 2), 1);
        });
        test("5: the largest of all", () -> {
            WordTokenPasser x = empty();
            x.gram(NONE, NONE, 2, 9999, 0);
            x.gram(NONE, NONE, 1, 0, 9999);
            x.gram(NONE, 0, 1, 0, 9999);
            is(x.after(0, 1, 2), 29997);
        });
    }

    private static void afterNone() {
        test("5: NONE when there is none", () -> {
            WordTokenPasser x = withFreeWords();
            x.ungram(NONE, NONE, 2);
            x.gram(NONE, 0, 1, 0, 5);
            is(x.after(0, 1, 2), NONE);
            is(x.after(EDGE, EDGE, 2), NONE);
            is(x.after(EDGE, 1, 2), NONE);
        });
        test("5: NONE when there is none of EDGE", () -> {
            WordTokenPasser x = withFreeWords();
            x.ungram(NONE, NONE, EDGE);
            is(x.after(0, 1, EDGE), NONE);
            is(x.after(EDGE, 1, EDGE), NONE);
            is(x.after(EDGE, EDGE, EDGE), NONE);
        });
        test("5: w is neither a word nor EDGE", () -> {
            for (int w : new int[] {LOW, -2, NONE, 5, HIGH}) {
                is(withFreeWords().after(0, 0, w), NONE);
                is(withFreeWords().after(EDGE, EDGE, w), NONE);
            }
        });
        test("5: v neither", () -> {
            for (int v : new int[] {LOW, -2, NONE, 5, HIGH}) {
                is(withFreeWords().after(0, v, 0), NONE);
                is(withFreeWords().after(EDGE, v, 0), NONE);
                is(withFreeWords().after(NONE, v, 0), NONE);
            }
        });
        test("5: u neither", () -> {
            for (int u : new int[] {LOW, -2, NONE, 5, HIGH}) {
                is(withFreeWords().after(u, 0, 0), NONE);
            }
        });
        test("5: v is EDGE and u is not", () -> {
            for (int u : new int[] {LOW, -2, NONE, 0, 1, 2, 3, 5, HIGH}) {
                is(withFreeWords().after(u, EDGE, 0), NONE);
            }
            is(withFreeWords().after(EDGE, EDGE, 0), 0);
        });
        test("5: everything else has a cost, near the numbers", () -> {
            for (int u = -3; u <= 7; u++) {
                WordTokenPasser x = withFreeWords();
                for (int v = -3; v <= 7; v++) {
                    for (int w = -3; w <= 7; w++) {
                        boolean there = isWordOrEdge(u) && isWordOrEdge(v) && isWordOrEdge(w) && (v != EDGE || u == EDGE);
                        is(x.after(u, v, w), there ? 0 : NONE);
                    }
                }
            }
        });
    }

    private static void topology() {
        test("6: no such state, too small", () -> {
            is(empty().topology(-1, 0, 0), false);
            is(empty().topology(LOW, 0, 0), false);
        });
        test("6: no such state, too large", () -> {
            is(empty().topology(3, 0, 0), false);
            is(empty().topology(HIGH, 0, 0), false);
        });
        test("6: the least and the largest state, each with its own costs", () -> {
            WordTokenPasser x = withFrames(oneWord(0, NONE, NONE), 3);
            is(x.topology(0, 0, 1), true);
            is(x.total(), 1);
            is(x.topology(2, 0, 100), true);
            is(x.total(), 101);
            is(x.topology(1, 0, 10), true);
            is(x.total(), 111);
        });
        test("6: a cost of holding too small or too large", () -> {
            for (int bad : new int[] {LOW, -1, 10000, HIGH}) {
                is(empty().topology(0, bad, 0), false);
            }
        });
        test("6: a cost of leaving too small or too large", () -> {
            for (int bad : new int[] {LOW, -1, 10000, HIGH}) {
                is(empty().topology(0, 0, bad), false);
            }
        });
        test("6: the largest cost of holding", () -> {
            WordTokenPasser x = withFrames(oneWord(0, NONE, NONE), 5);
            for (int s = 0; s < 3; s++) {
                is(x.topology(s, 9999, 0), true);
            }
            is(x.total(), 2 * 9999);
        });
        test("6: the largest cost of leaving", () -> {
            WordTokenPasser x = withFrames(oneWord(0, NONE, NONE), 5);
            for (int s = 0; s < 3; s++) {
                is(x.topology(s, 0, 9999), true);
            }
            is(x.total(), 3 * 9999);
        });
        test("6: refused for one cost, the other is not taken", () -> {
            WordTokenPasser x = withFrames(oneWord(0, NONE, NONE), 4);
            for (int s = 0; s < 3; s++) {
                x.topology(s, 7, 5);
                is(x.topology(s, 10000, 0), false);
                is(x.topology(s, 0, 10000), false);
            }
            is(x.total(), 22);
        });
        test("6: the same for all phones", () -> {
            for (int phone = 0; phone < 4; phone++) {
                WordTokenPasser x = withFrames(oneWord(phone, NONE, NONE), 3);
                x.topology(1, 0, 8);
                is(x.total(), 8);
            }
        });
    }

    private static void frames() {
        test("7: answers how many there are, up to 15", () -> {
            WordTokenPasser x = empty();
            for (int i = 1; i <= 15; i++) {
                is(x.frame(), i);
            }
        });
        test("7: refused when there are 15", () -> {
            WordTokenPasser x = withFrames(empty(), 15);
            is(x.frame(), NONE);
            is(x.frame(), NONE);
            is(x.frames(), 15);
        });
        test("7: with 15, one dropped, there is room again for one", () -> {
            WordTokenPasser x = withFrames(empty(), 15);
            x.frame();
            is(x.drop(), true);
            is(x.frame(), 15);
            is(x.frame(), NONE);
        });
        test("7: all its costs 0", () -> {
            WordTokenPasser x = withFrames(fourWords(), 1);
            is(x.best(1), 0);
            x.frame();
            is(x.best(2), 0);
        });
        test("7: all its costs 0, where a dropped frame had others, first and last", () -> {
            for (int n : new int[] {1, 15}) {
                WordTokenPasser x = withFrames(fourWords(), n);
                soundAll(x, n - 1, 9999);
                is(x.best(n), 9999);
                x.drop();
                x.frame();
                is(x.best(n), 0);
            }
        });
        test("7: all its costs 0, where a dropped frame had one other, for each phone and state", () -> {
            for (int i = 0; i < 12; i++) {
                int state = i % 3;
                WordTokenPasser x = withFrames(oneWord(i / 3, NONE, NONE), 3);
                x.sound(state, i / 3, state, 9999);
                is(x.total(), 9999);
                for (int t = 2; t >= state; t--) {
                    x.drop();
                }
                withFrames(x, 3 - state);
                is(x.total(), 0);
            }
        });
        test("8: refused when there is none", () -> {
            is(empty().drop(), false);
            WordTokenPasser x = withFrames(empty(), 1);
            is(x.drop(), true);
            is(x.drop(), false);
            is(x.drop(), false);
            is(x.frames(), 0);
            is(x.frame(), 1);
        });
        test("8: the last frame goes, those before it stay", () -> {
            WordTokenPasser x = withFrames(fourWords(), 15);
            for (int t = 0; t < 15; t++) {
                soundAll(x, t, t + 1);
            }
            for (int n = 15; n > 0; n--) {
                is(x.frames(), n);
                is(x.best(n), n * (n + 1) / 2);
                is(x.drop(), true);
                is(x.best(n), NONE);
                is(x.live(n), 0);
            }
        });
        test("10: the number of frames, from 0 to 15 and back", () -> {
            WordTokenPasser x = empty();
            is(x.frames(), 0);
            for (int i = 1; i <= 15; i++) {
                x.frame();
                is(x.frames(), i);
            }
            x.frame();
            is(x.frames(), 15);
            for (int i = 14; i >= 0; i--) {
                x.drop();
                is(x.frames(), i);
            }
            x.drop();
            is(x.frames(), 0);
        });
    }

    private static void sound() {
        test("9: no such frame, none at all", () -> is(empty().sound(0, 0, 0, 0), false));
        test("9: no such frame, too small", () -> {
            is(withFrames(empty(), 15).sound(-1, 0, 0, 0), false);
            is(withFrames(empty(), 15).sound(LOW, 0, 0, 0), false);
        });
        test("9: no such frame, too large", () -> {
            for (int n = 0; n <= 15; n++) {
                is(withFrames(empty(), n).sound(n, 0, 0, 0), false);
                is(withFrames(empty(), n).sound(HIGH, 0, 0, 0), false);
            }
        });
        test("9: no such frame, dropped", () -> {
            WordTokenPasser x = withFrames(empty(), 3);
            is(x.sound(2, 0, 0, 1), true);
            x.drop();
            is(x.sound(2, 0, 0, 1), false);
        });
        test("9: the first and the last frame", () -> {
            WordTokenPasser x = withFrames(oneWord(0, NONE, NONE), 15);
            is(x.sound(0, 0, 0, 3), true);
            is(x.sound(14, 0, 2, 40), true);
            is(x.total(), 43);
        });
        test("9: no such phone", () -> {
            for (int bad : new int[] {LOW, -1, 4, HIGH}) {
                is(withFrames(empty(), 1).sound(0, bad, 0, 0), false);
            }
        });
        test("9: no such state", () -> {
            for (int bad : new int[] {LOW, -1, 3, HIGH}) {
                is(withFrames(empty(), 1).sound(0, 0, bad, 0), false);
            }
        });
        test("9: c is not 0 .. 9999", () -> {
            for (int bad : new int[] {LOW, -1, 10000, HIGH}) {
                is(withFrames(empty(), 1).sound(0, 0, 0, bad), false);
            }
        });
        test("9: the largest cost, and the least in its place", () -> {
            WordTokenPasser x = withFrames(oneWord(0, NONE, NONE), 1);
            is(x.sound(0, 0, 0, 9999), true);
            is(x.best(1), 9999);
            is(x.sound(0, 0, 0, 0), true);
            is(x.best(1), 0);
        });
        test("9: each frame, phone and state has a cost of its own", () -> {
            for (int i = 0; i < 36; i++) {
                int t = i / 12;
                int phone = i / 3 % 4;
                int state = i % 3;
                WordTokenPasser x = withFrames(fourWords(), 3);
                for (int other = 0; other < 4; other++) {
                    soundOnly(x, other, phone);
                }
                is(x.total(), 0);
                words(x, phone);
                is(x.sound(t, phone, state, 17), true);
                is(x.total(), t == state ? 17 : 0);
            }
        });
    }

    /** Frame 0 is dear for all phones but this one. */
    private static void soundOnly(WordTokenPasser x, int other, int phone) {
        if (other != phone) {
            x.sound(0, other, 0, 9999);
        }
    }

    private static void nodes() {
        test("11: the root not counted", () -> {
            is(empty().nodes(), 0);
            is(oneWord(2, NONE, NONE).nodes(), 1);
        });
        test("11: a node for each different beginning", () -> {
            WordTokenPasser x = oneWord(0, 1, 2);
            x.say(0, 0, 1, 3);
            is(x.nodes(), 4);
            x.say(0, 0, 2, NONE);
            is(x.nodes(), 5);
            x.say(0, 1, 2, NONE);
            is(x.nodes(), 7);
        });
        test("11: a beginning that is a pronunciation too, said before or after the longer one", () -> {
            WordTokenPasser x = oneWord(0, NONE, NONE);
            x.say(1, 0, 0, NONE);
            is(x.nodes(), 2);
            x.say(2, 0, 0, 0);
            is(x.nodes(), 3);
            x.say(3, 0, 0, NONE);
            is(x.nodes(), 3);
        });
    }

    private static void wholePathsNone() {
        test("12: with no frames there is none, though EDGE may follow EDGE", () -> {
            WordTokenPasser x = fourWords();
            x.gram(NONE, EDGE, EDGE, 0, 0);
            is(x.total(), NONE);
            words(x);
        });
        test("12: with no frames again there is none", () -> {
            WordTokenPasser x = withFrames(fourWords(), 3);
            is(x.total(), 0);
            x.drop();
            x.drop();
            x.drop();
            is(x.total(), NONE);
            words(x);
        });
        test("12: no whole path, no pronunciations", () -> {
            WordTokenPasser x = withFrames(withFreeWords(), 15);
            x.gram(NONE, EDGE, EDGE, 0, 0);
            is(x.total(), NONE);
            words(x);
        });
        test("12: a state with one frame or more: too few frames, and just enough", () -> {
            int[][] phones = {{0, NONE, NONE}, {0, 0, NONE}, {0, 0, 0}};
            for (int i = 0; i < 3; i++) {
                WordTokenPasser x = oneWord(phones[i][0], phones[i][1], phones[i][2]);
                withFrames(x, 3 * i + 2);
                is(x.total(), NONE);
                words(x);
                x.frame();
                is(x.total(), 0);
                words(x, 0);
            }
        });
        test("12: no whole path, no cost of the last word", () -> {
            WordTokenPasser x = withFrames(oneWord(0, NONE, NONE), 3);
            x.ungram(NONE, NONE, 0);
            is(x.total(), NONE);
            words(x);
            x.gram(NONE, EDGE, 0, 0, 0);
            is(x.total(), 0);
        });
        test("12: no whole path, no cost of EDGE", () -> {
            WordTokenPasser x = withFrames(oneWord(0, NONE, NONE), 3);
            x.ungram(NONE, NONE, EDGE);
            is(x.total(), NONE);
            words(x);
            x.gram(EDGE, 0, EDGE, 0, 0);
            is(x.total(), 0);
        });
        test("12: no path where a cost of a word within is none", () -> {
            WordTokenPasser x = withFreeWords();
            x.ungram(NONE, NONE, 1);
            x.say(0, 0, NONE, NONE);
            x.say(1, 1, NONE, NONE);
            withFrames(x, 9);
            for (int t = 0; t < 9; t++) {
                x.sound(t, t / 3 == 1 ? 0 : 1, 0, 9999);
                x.sound(t, t / 3 == 1 ? 0 : 1, 1, 9999);
                x.sound(t, t / 3 == 1 ? 0 : 1, 2, 9999);
            }
            is(x.total(), 3 * 9999);
            is(x.length() > 0, true);
            x.gram(EDGE, 0, 1, 5, 0);
            is(x.total(), 5);
            words(x, 0, 1, 0);
        });
    }

    private static void wholePathsCosts() {
        test("12: a cost of 0 is a cost", () -> is(withFrames(fourWords(), 3).total(), 0));
        test("12: to its cost come leaving the state of the last frame", () -> {
            WordTokenPasser x = withFrames(oneWord(0, NONE, NONE), 3);
            x.topology(2, 0, 6);
            is(x.total(), 6);
            is(x.best(3), 0);
        });
        test("12: to its cost comes the cost of the last word after those before it", () -> {
            WordTokenPasser x = withFrames(oneWord(0, NONE, NONE), 3);
            x.gram(NONE, EDGE, 0, 6, 0);
            is(x.total(), 6);
            is(x.best(3), 0);
        });
        test("12: the cost of EDGE after EDGE and the only one", () -> {
            WordTokenPasser x = withFrames(oneWord(0, NONE, NONE), 3);
            x.gram(EDGE, 0, EDGE, 6, 0);
            x.gram(0, 0, EDGE, 500, 0);
            is(x.total(), 6);
        });
        test("12: the cost of EDGE after the last two", () -> {
            WordTokenPasser x = withFrames(oneWord(0, NONE, NONE), 6);
            holdAt(x, 9999);
            x.gram(EDGE, 0, EDGE, 500, 0);
            x.gram(0, 0, EDGE, 6, 0);
            is(x.total(), 6);
            words(x, 0, 0);
        });
        test("12: the first word is after EDGE, EDGE, the second after EDGE and it, the third after both", () -> {
            WordTokenPasser x = withFrames(oneWord(0, NONE, NONE), 9);
            holdAt(x, 9999);
            x.gram(NONE, EDGE, 0, 1, 0);
            x.gram(EDGE, 0, 0, 10, 0);
            x.gram(0, 0, 0, 100, 0);
            x.gram(0, 0, EDGE, 1000, 0);
            is(x.total(), 1111);
            words(x, 0, 0, 0);
        });
        test("12: a word after itself leaves the last state, though the phone is the same", () -> {
            WordTokenPasser x = withFrames(oneWord(0, NONE, NONE), 6);
            holdAt(x, 9999);
            x.topology(2, 9999, 30);
            is(x.total(), 60);
            words(x, 0, 0);
        });
        test("12: the same phone twice in a pronunciation is two places, left in between", () -> {
            WordTokenPasser x = withFrames(oneWord(0, 0, NONE), 6);
            x.topology(2, 9999, 30);
            is(x.total(), 60);
            words(x, 0);
        });
        test("12: the largest of all", () -> {
            WordTokenPasser x = oneWord(0, NONE, NONE);
            for (int w = 0; w <= EDGE; w++) {
                x.gram(NONE, NONE, w, 9999, 9999);
                x.gram(NONE, w, 0, 9999, 9999);
            }
            for (int s = 0; s < 3; s++) {
                x.topology(s, 9999, 9999);
            }
            withFrames(x, 15);
            for (int t = 0; t < 15; t++) {
                soundAll(x, t, 9999);
            }
            // 15 sounds, 15 times holding or leaving, the word; EDGE with both backoffs.
            is(x.total(), 34 * 9999);
            words(x, 0);
        });
    }

    private static void bestOfWholePaths() {
        test("13, 14: 15 frames hold 5 words of one phone, and no more", () -> {
            WordTokenPasser x = withFrames(fourWords(), 15);
            holdAt(x, 9999);
            int[] said = {3, 2, 1, 0, 3};
            for (int t = 0; t < 15; t++) {
                soundAll(x, t, 1);
                for (int s = 0; s < 3; s++) {
                    x.sound(t, said[t / 3], s, 0);
                }
            }
            is(x.total(), 0);
            words(x, said);
        });
        test("12: the one of least cost, though it has more words", () -> {
            WordTokenPasser x = withFrames(oneWord(0, NONE, NONE), 6);
            x.gram(NONE, EDGE, 0, 5, 0);
            holdAt(x, 1);
            x.gram(0, 0, EDGE, 2, 0);
            is(x.total(), 7);
            words(x, 0, 0);
        });
        test("13: among these one with the fewest words, though its words are larger", () -> {
            WordTokenPasser x = withFreeWords();
            x.say(0, 0, NONE, NONE);
            x.say(3, 1, 1, NONE);
            withFrames(x, 6);
            holdAt(x, 9999);
            is(x.total(), 0);
            words(x, 3);
        });
        test("14: among these the least words, the first word compared first", () -> {
            WordTokenPasser x = withFrames(fourWords(), 6);
            holdAt(x, 9999);
            x.gram(NONE, 0, 0, 1, 0);
            x.gram(NONE, 0, 1, 1, 0);
            x.gram(NONE, 0, 2, 1, 0);
            is(x.total(), 0);
            words(x, 0, 3);
        });
        test("14: the least words, where the second is the first to differ", () -> {
            WordTokenPasser x = withFrames(fourWords(), 9);
            holdAt(x, 9999);
            x.gram(1, 0, EDGE, 0, 0);
            for (int w = 0; w < 4; w++) {
                x.gram(NONE, EDGE, w, w == 2 ? 0 : 9, 0);
                x.gram(NONE, 2, w, w == 0 || w == 2 ? 9 : 0, 0);
                x.gram(2, 1, w, w == 3 ? 0 : 9, 0);
                x.gram(2, 3, w, w == 0 ? 0 : 9, 0);
            }
            is(x.total(), 0);
            words(x, 2, 1, 3);
        });
        test("14: the same words with one of two pronunciations, the cheaper", () -> {
            WordTokenPasser x = oneWord(0, NONE, NONE);
            x.say(0, 1, NONE, NONE);
            withFrames(x, 3);
            x.sound(1, 0, 1, 9);
            x.sound(1, 1, 1, 4);
            is(x.total(), 4);
            words(x, 0);
        });
        test("13: 0 when there is none", () -> {
            is(empty().length(), 0);
            is(withFrames(fourWords(), 2).length(), 0);
        });
        test("14: NONE when there is none, too small", () -> {
            is(withFrames(fourWords(), 3).wordAt(-1), NONE);
            is(withFrames(fourWords(), 3).wordAt(LOW), NONE);
        });
        test("14: NONE when there is none, too large", () -> {
            for (int i : new int[] {1, 2, 5, 15, 16, 31, 32, 33, 63, 64, 65, 1 << 30, (1 << 30) + 1, HIGH}) {
                is(withFrames(fourWords(), 3).wordAt(i), NONE);
            }
        });
        test("14: NONE when there is no whole path", () -> {
            is(empty().wordAt(0), NONE);
            is(withFrames(fourWords(), 2).wordAt(0), NONE);
            is(withFrames(fourWords(), 2).wordAt(-1), NONE);
        });
    }

    private static void live() {
        test("15: 0 when n is not 1 .. frames(), no frames", () -> {
            for (int n : new int[] {LOW, -1, 0, 1, 15, 16, HIGH}) {
                is(fourWords().live(n), 0);
            }
        });
        test("15: 0 when n is not 1 .. frames(), too small", () -> {
            for (int n : new int[] {LOW, -1, 0}) {
                is(withFrames(fourWords(), 15).live(n), 0);
            }
        });
        test("15: 0 when n is not 1 .. frames(), too large", () -> {
            for (int frames = 1; frames <= 15; frames++) {
                is(withFrames(fourWords(), frames).live(frames) > 0, true);
                is(withFrames(fourWords(), frames).live(frames + 1), 0);
                is(withFrames(fourWords(), frames).live(HIGH), 0);
            }
        });
        test("15: 0 with no pronunciations", () -> is(withFrames(withFreeWords(), 15).live(15), 0));
        test("15: after one frame the first state of each first phone alone", () -> {
            WordTokenPasser x = withFrames(oneWord(0, 1, 2), 1);
            is(x.live(1), 1);
            x.say(1, 3, NONE, NONE);
            is(x.live(1), 2);
        });
        test("15: a state is gone to one by one, all nine of three phones", () -> {
            WordTokenPasser x = withFrames(oneWord(0, 0, 0), 9);
            for (int n = 1; n <= 9; n++) {
                is(x.live(n), n);
            }
        });
        test("15: the last frame may also be that of the last state of its last phone", () -> {
            WordTokenPasser x = withFrames(oneWord(0, NONE, NONE), 3);
            x.ungram(NONE, NONE, 0);
            is(x.live(3), 3);
        });
        test("15: words of one node stand at one place", () -> {
            WordTokenPasser x = withFreeWords();
            for (int w = 0; w < 4; w++) {
                x.say(w, 0, 1, NONE);
            }
            withFrames(x, 6);
            is(x.live(1), 1);
            is(x.live(6), 6);
        });
        test("15: places differ by v, and by u", () -> {
            WordTokenPasser x = withFreeWords();
            x.say(0, 0, NONE, NONE);
            x.say(1, 0, NONE, NONE);
            withFrames(x, 10);
            is(x.live(3), 3);
            is(x.live(4), 3 + 2);
            is(x.live(6), 3 + 2 * 3);
            is(x.live(7), 3 + 2 * 3 + 4);
            is(x.live(9), 3 + 2 * 3 + 4 * 3);
            // A fourth word stands after two words of the same kind as a third.
            is(x.live(10), 3 + 2 * 3 + 4 * 3);
        });
        test("15: the most places that there are", () -> {
            WordTokenPasser x = withFreeWords();
            for (int i = 0; i < 4; i++) {
                x.say(i, i, NONE, NONE);
                x.say(i, i, 0, 0);
            }
            withFrames(x, 15);
            // 12 nodes of 3 states after EDGE, EDGE, after EDGE and one of 4 words, and after 16 twos.
            is(x.live(15), 12 * 3 * 21);
        });
        test("15: no place after a word whose cost is none", () -> {
            WordTokenPasser x = withFrames(oneWord(0, NONE, NONE), 7);
            x.ungram(NONE, NONE, 0);
            is(x.live(7), 3);
            x.gram(NONE, EDGE, 0, 9999, 0);
            is(x.live(7), 6);
            x.gram(EDGE, 0, 0, 9999, 0);
            is(x.live(7), 7);
        });
        test("15: the last word needs no cost", () -> {
            WordTokenPasser x = withFrames(fourWords(), 4);
            int before = x.live(4);
            x.ungram(NONE, NONE, 1);
            // Word 1 still stands after EDGE and after each other word; the four words after it are gone.
            is(x.live(4), before - 4);
            is(x.live(3), 12);
        });
        test("15: how dear a path is does not matter", () -> {
            WordTokenPasser x = withFrames(oneWord(0, NONE, NONE), 3);
            holdAt(x, 9999);
            soundAll(x, 0, 9999);
            is(x.live(3), 3);
        });
        test("15: later frames do not matter", () -> {
            WordTokenPasser x = withFrames(fourWords(), 4);
            int before = x.live(4);
            withFrames(x, 11);
            is(x.live(4), before);
        });
    }

    private static void best() {
        test("16: NONE when n is not 1 .. frames(), no frames", () -> {
            for (int n : new int[] {LOW, -1, 0, 1, 15, 16, HIGH}) {
                is(fourWords().best(n), NONE);
            }
        });
        test("16: NONE when n is not 1 .. frames(), too small", () -> {
            for (int n : new int[] {LOW, -1, 0}) {
                is(withFrames(fourWords(), 15).best(n), NONE);
            }
        });
        test("16: NONE when n is not 1 .. frames(), too large", () -> {
            for (int frames = 1; frames <= 15; frames++) {
                is(withFrames(fourWords(), frames).best(frames), 0);
                is(withFrames(fourWords(), frames).best(frames + 1), NONE);
                is(withFrames(fourWords(), frames).best(HIGH), NONE);
            }
        });
        test("16: NONE when there is none", () -> is(withFrames(withFreeWords(), 15).best(15), NONE));
        test("16: the cost of holding or leaving for each frame but the last", () -> {
            WordTokenPasser x = withFrames(oneWord(0, NONE, NONE), 3);
            for (int s = 0; s < 3; s++) {
                x.topology(s, 50, 60);
            }
            is(x.best(1), 0);
            is(x.best(2), 50);
            is(x.best(3), 100);
        });
        test("16: each word but the last has a cost", () -> {
            WordTokenPasser x = withFrames(oneWord(0, NONE, NONE), 7);
            holdAt(x, 9999);
            x.gram(NONE, EDGE, 0, 4, 0);
            x.gram(EDGE, 0, 0, 30, 0);
            is(x.best(3), 0);
            is(x.best(4), 4);
            is(x.best(6), 4);
            is(x.best(7), 34);
        });
        test("16: the last word needs no cost", () -> {
            WordTokenPasser x = withFrames(oneWord(0, NONE, NONE), 4);
            x.ungram(NONE, NONE, 0);
            holdAt(x, 8);
            is(x.best(3), 0);
            is(x.best(4), 8);
        });
        test("16: there is no path where the cost of a word but the last is none", () -> {
            WordTokenPasser x = withFrames(fourWords(), 4);
            holdAt(x, 8);
            soundAll(x, 0, 5);
            x.sound(0, 1, 0, 0);
            is(x.best(4), 0);
            x.ungram(NONE, NONE, 1);
            // Word 1 alone, holding a state, costs 8; another word before the last one costs 5.
            is(x.best(3), 0);
            is(x.best(4), 5);
        });
        test("16: no cost of EDGE is needed", () -> {
            WordTokenPasser x = withFrames(oneWord(0, NONE, NONE), 3);
            x.ungram(NONE, NONE, EDGE);
            is(x.best(3), 0);
        });
        test("16: the path of least cost need not be one that can be whole", () -> {
            WordTokenPasser x = withFrames(oneWord(0, 1, 2), 4);
            soundAll(x, 3, 9);
            x.sound(3, 1, 0, 2);
            is(x.best(4), 2);
            is(x.total(), NONE);
        });
        test("16: the largest of all", () -> {
            WordTokenPasser x = oneWord(3, 3, 3);
            for (int s = 0; s < 3; s++) {
                x.topology(s, 9999, 9999);
            }
            withFrames(x, 15);
            for (int t = 0; t < 15; t++) {
                soundAll(x, t, 9999);
            }
            is(x.best(15), 29 * 9999);
        });
    }

    public static void main(String[] args) {
        is(NONE, -1);
        use();
        newObject();
        sayNumbers();
        sayAgain();
        sayMost();
        gramForms();
        gramCosts();
        ungram();
        afterCosts();
        afterNone();
        topology();
        frames();
        sound();
        nodes();
        wholePathsNone();
        wholePathsCosts();
        bestOfWholePaths();
        live();
        best();
        System.out.println(wrong == 0 ? "all " + tests + " boundary cases hold" : wrong + " answers are not as due");
        if (wrong != 0) {
            System.exit(1);
        }
    }
}
