/** Sections 2 and 3 of the document, WORDS OF THE MACHINE and STEPS: each boundary that they name, and both sides of it. */
public final class MachineBoundaryTests extends Due {
    private static final String LEAST = "(0 - 999999999 - 999999999 - 147483650)";
    private static final String MOST = "(999999999 + 999999999 + 147483649)";

    public static void main(String[] args) {
        wrapping();
        dividing();
        comparing();
        cellsOfCaptured();
        cellsOfPart();
        cellsOfFrames();
        madeInPlaces();
        wordsOfTheirOwn();
        traceOfSimple();
        traceOfDatum();
        traceOfCall();
        traceOfLet();
        traceOfWordsLeft();
        traceOfPart();
        tooFewAndTooManyWords();
        wordsOfPart();
        errorBusy();
        errorCalled();
        errorNoAlternative();
        firstAlternative();
        errorNoNumber();
        errorZero();
        errorsLeaveNothing();
        textLimit();
        textOfNumbers();
        textOfParentheses();
        framesLimit();
        framesLimitOfRight();
        framesAheadOfHeap();
        textAheadOfFrames();
        finish("MachineBoundaryTests");
    }

    /** Names a1 to an, each with a blank ahead. */
    private static String names(String letter, int n) {
        StringBuilder all = new StringBuilder();
        for (int i = 1; i <= n; i++) {
            all.append(' ').append(letter).append(i);
        }
        return all.toString();
    }

    /** The numbers from one to the other, each with a blank ahead. */
    private static String numbers(int from, int to) {
        StringBuilder all = new StringBuilder();
        for (int i = from; i <= to; i++) {
            all.append(' ').append(i);
        }
        return all.toString();
    }

    // "a NUMBER (an int, which wraps)"

    private static void wrapping() {
        dueShown("main = " + MOST + ";", "2147483647");
        dueShown("main = " + LEAST + ";", "-2147483648");
        dueShown("main = " + MOST + " + 1;", "-2147483648");
        dueShown("main = " + MOST + " + 0;", "2147483647");
        dueShown("main = " + MOST + " - 1 + 1;", "2147483647");
        dueShown("main = " + LEAST + " - 1;", "2147483647");
        dueShown("main = " + LEAST + " + 1 - 1;", "-2147483648");
        dueShown("main = 0 - " + LEAST + ";", "-2147483648");
        dueShown("main = 0 - " + MOST + ";", "-2147483647");
        dueShown("main = " + MOST + " + " + MOST + ";", "-2");
        dueShown("main = " + LEAST + " + " + LEAST + ";", "0");
        dueShown("main = " + MOST + " * " + MOST + ";", "1");
        dueShown("main = " + LEAST + " * (0 - 1);", "-2147483648");
        dueShown("main = 46341 * 46341;", "-2147479015");
        dueShown("main = 46340 * 46340;", "2147395600");
        dueShown("main = 65536 * 32768;", "-2147483648");
        dueShown("main = 65536 * 32767;", "2147418112");
        dueShown("main = 999999999 * 999999999;", "" + 999999999 * 999999999);
        // It wraps where it is looked at, too.
        dueShown("main = case " + MOST + " + 1 == " + LEAST + " of { True -> Same; False -> Other };", "Same");
        dueShown("main = case 65536 * 65536 + 7 of { 7 -> Yes; z -> No };", "Yes");
    }

    // "/ % (cut off towards 0 ..)"

    private static void dividing() {
        int[] lefts = {0, 1, 6, 7, 8, 999999999};
        int[] rights = {1, 2, 3, 7, 8, 9};
        for (int left : lefts) {
            for (int right : rights) {
                dueShown("main = " + left + " / " + right + ";", "" + left / right);
                dueShown("main = (0 - " + left + ") / " + right + ";", "" + -left / right);
                dueShown("main = " + left + " / (0 - " + right + ");", "" + left / -right);
                dueShown("main = (0 - " + left + ") / (0 - " + right + ");", "" + left / right);
                dueShown("main = " + left + " % " + right + ";", "" + left % right);
                dueShown("main = (0 - " + left + ") % " + right + ";", "" + -left % right);
                dueShown("main = " + left + " % (0 - " + right + ");", "" + left % -right);
                dueShown("main = (0 - " + left + ") % (0 - " + right + ");", "" + -left % -right);
            }
        }
        dueShown("main = (0 - 7) / 2;", "-3");
        dueShown("main = (0 - 7) % 2;", "-1");
        dueShown("main = 7 % (0 - 2);", "1");
        dueShown("main = " + LEAST + " / (0 - 1);", "-2147483648");
        dueShown("main = " + LEAST + " % (0 - 1);", "0");
        dueShown("main = " + LEAST + " / 1;", "-2147483648");
        dueShown("main = " + LEAST + " / 2;", "-1073741824");
        dueShown("main = " + LEAST + " % 10;", "-8");
        dueShown("main = " + MOST + " / (0 - 1);", "-2147483647");
        dueShown("main = " + LEAST + " / " + LEAST + ";", "1");
        dueShown("main = " + MOST + " / " + LEAST + ";", "0");
    }

    // "== and < the MAKER True or False"

    private static void comparing() {
        String[] rising = {LEAST, "(" + LEAST + " + 1)", "(0 - 2)", "(0 - 1)", "0", "1", "2", "(" + MOST + " - 1)", MOST};
        for (int i = 0; i < rising.length; i++) {
            for (int j = 0; j < rising.length; j++) {
                dueShown("main = " + rising[i] + " < " + rising[j] + ";", i < j ? "True" : "False");
                dueShown("main = " + rising[i] + " == " + rising[j] + ";", i == j ? "True" : "False");
            }
        }
        // They are MAKERS without fields like those that a text has.
        dueShown("main = case 1 == 1 of { False -> 0; True -> 1 };", "1");
        dueShown("main = case 1 < 1 of { True -> 1; False -> 0 };", "0");
        dueEnd("main = case 1 < 2 of { True x -> 1; False -> 0 };", 10, 13, 8);
        dueCounts("main = 1 == 1;", 0, 1, 8);
    }

    // "An object takes 2 cells and 1 for each word": DELAY, FUNCTION, DATUM.

    private static void cellsOfCaptured() {
        for (int n = 0; n <= 25; n++) {
            String sum = names("a", n).replace(" ", "+");
            String given = "main = f" + many(" 1", n) + ";";
            String head = "k x = 1; f" + names("a", n) + " = ";
            dueMade(head + "k (1+0" + sum + ");" + given, 2 + n);
            dueMade(head + "k (\\z -> 0" + sum + ");" + given, 2 + n);
            dueMade(head + "let y = 0" + sum + " in 1;" + given, 2 + n);
            dueMade(head + "let y z = 0" + sum + " in 1;" + given, 2 + n);
            dueMade(head + "k (K 7" + names("a", n) + ");" + given, 3 + n);
            dueMade(head + "let y = K 7" + names("a", n) + " in 1;" + given, 3 + n);
            dueMade(head + "K 7" + names("a", n) + ";" + given, 3 + n);
            // What is used twice is one word of what is FREE, but two fields.
            dueMade(head + "k (1+0" + sum + sum + ");" + given, 2 + n);
            dueMade(head + "k (K 7" + names("a", n) + names("a", n) + ");" + given, 3 + 2 * n);
        }
    }

    private static void dueMade(String text, int cells) {
        LazyHouse house = begun(text, 20000);
        due("step(20000) of [" + text + "]", house.step(20000), 1);
        due("count(1) of [" + text + "]", house.count(1), cells);
    }

    // "(a PART 1 more)"; "words it was called with, less than it takes, one at least"

    private static void cellsOfPart() {
        for (int takes = 2; takes <= 12; takes++) {
            for (int n = 1; n < takes; n++) {
                dueMade("f" + names("a", takes) + " = 1; main = f" + numbers(1, n) + ";", 3 + n);
                dueMade("main = (\\" + names("a", takes) + " -> 1)" + numbers(1, n) + ";", 2 + 3 + n);
                // One word more in each CALL: a new PART each time.
                StringBuilder nested = new StringBuilder("f");
                int cells = 0;
                for (int i = 1; i <= n; i++) {
                    nested.insert(0, "(").append(" ").append(i).append(")");
                    cells += 3 + i;
                }
                dueMade("f" + names("a", takes) + " = 1; main = " + nested + ";", cells);
            }
        }
    }

    // "FRAMES on the STACK, and the cells that each takes"

    private static void cellsOfFrames() {
        for (int n = 1; n <= 25; n++) {
            String given = "main = f" + many(" 1", n) + ";";
            String head = "f" + names("a", n) + " = ";
            LazyHouse house = begun(head + "1;" + given, 100);
            dueFrames(house, 0, 1, 2);
            dueFrames(house, 1, 2, 2 + 3);
            dueFrames(house, 1, 3, 2 + 3 + 2 + n);
            for (int free = 0; free <= n; free++) {
                String used = names("a", free);
                LazyHouse choice = begun(head + "case 1 of { z -> K z z" + used + used + " };" + given, 100);
                dueFrames(choice, 6, 3, 2 + 3 + 2 + free);
                LazyHouse left = begun(head + "1 + (case 2 of { z -> K z z" + used + used + " });" + given, 100);
                dueFrames(left, 6, 3, 2 + 3 + 2 + free);
                // EVALUATE 1, GIVE: the LEFT goes, a RIGHT comes.
                dueFrames(left, 2, 3, 2 + 3 + 3);
            }
        }
        // A CHOICE has what is FREE in all of its ALTERNATIVES together, but not in what stands behind case.
        LazyHouse all = begun("f a b c d = case d of { 1 -> a; 2 -> b; K a -> a; z -> a }; main = f 1 1 1 3;", 100);
        dueFrames(all, 6, 3, 2 + 3 + 2 + 2);
        // A LEFT has what is FREE in its right side alone.
        LazyHouse right = begun("f a b c d = a + b * c - d; main = f 1 1 1 3;", 100);
        dueFrames(right, 6, 3, 2 + 3 + 2 + 1);
        dueFrames(right, 1, 4, 2 + 3 + 2 + 1 + 2 + 2);
    }

    // "ATOMS that are SIMPLE"; "What is made of an ATOM .. IN ITS PLACE"; "What is made of a let's EXPRESSIONS"

    private static void madeInPlaces() {
        String[] simple = {"1", "(1)", "((1))", "K", "(K)", "(((((K)))))", "d", "(d)", "f", "((f))"};
        for (String atom : simple) {
            dueMadeOf(atom, 0, 2);
        }
        String[] names = {"a", "(a)", "(((a)))"};
        for (String atom : names) {
            dueMadeOf(atom, 0, 3);
        }
        dueMadeOf("(\\x -> 1)", 2, 2);
        dueMadeOf("((\\x -> a))", 3, 3);
        dueMadeOf("(\\x y -> a b x y)", 4, 4);
        dueMadeOf("(P 1)", 3, 3);
        dueMadeOf("((P a))", 3, 3);
        dueMadeOf("(P a (b) ((K)) d 1 f)", 8, 8);
        dueMadeOf("(P a a a)", 5, 5);
        // Not all fields are SIMPLE: a DELAY, whichever it is.
        dueMadeOf("(P (Q 1))", 2, 2);
        dueMadeOf("(P (1 + 2) 1 1)", 2, 2);
        dueMadeOf("(P 1 (\\x -> x) 1)", 2, 2);
        dueMadeOf("(P 1 1 (a 1))", 3, 3);
        dueMadeOf("(P a (let x = b in x))", 4, 4);
        // A MAKER in ( ) is called, it has no fields.
        dueMadeOf("((P) 1)", 2, 2);
        dueMadeOf("(((P)) a)", 3, 3);
        dueMadeOf("((P 1) a)", 3, 3);
        String[] delays = {"(a 1)", "(a + 1)", "(1 < a)", "(let x = 1 in a)", "(let x = a in x)", "(case a of { x -> x })", "(f a)"};
        for (String atom : delays) {
            dueMadeOf(atom, 3, 3);
        }
        dueMadeOf("((\\x -> x) a)", 3, 3);
        dueMadeOf("((let x = 1 in x) + a)", 3, 3);
        dueMadeOf("((case a of { x -> x }) < (\\y -> y) b)", 4, 4);
        dueMadeOf("(d 1)", 2, 2);
        dueMadeOf("(case 1 of { a -> a })", 2, 2);
    }

    /** What is made of it behind the first ATOM of a CALL, as a field, and as a let's EXPRESSION. */
    private static void dueMadeOf(String atom, int inPlace, int inLet) {
        String head = "k x y z = 1; d = 1; f x = 1; g a b = ";
        String given = "; main = g 7 8;";
        dueMade(head + "k 1 " + atom + " 2" + given, inPlace);
        dueMade(head + "k " + atom + " " + atom + " 2" + given, 2 * inPlace);
        dueMade(head + "case W " + atom + " 3 of { z -> 1 }" + given, 4 + inPlace);
        dueMade(head + "let x = " + atom + " in 1" + given, inLet);
        String bare = atom.startsWith("(") && !atom.startsWith("((") ? atom.substring(1, atom.length() - 1) : atom;
        dueMade(head + "let x = " + bare + "; y = " + atom + " in 1" + given, 2 * inLet);
    }

    // "and the words of what is FREE in it": each object and each frame has its own, though the EXPRESSION is the same.

    private static void wordsOfTheirOwn() {
        // A FUNCTION, a DELAY, a DATUM, a PART, each made twice before one of them is used.
        dueShown("f a = \\x -> a + x; main = case f 10 of { g -> case f 20 of { h -> T (g 1) (h 2) (g 3) } };", "T 11 22 13");
        dueShown("f a = let x = a * 2 in P x; main = case f 10 of { P g -> case f 20 of { P h -> T g h g } };", "T 20 40 20");
        dueShown("f a = P (a * 2); main = case f 10 of { P g -> case f 20 of { P h -> T h g h } };", "T 40 20 40");
        dueShown("f a = P a; main = case f 10 of { g -> case f 20 of { h -> T g h g } };", "T (P 10) (P 20) (P 10)");
        dueShown("s a b = a - b; f a = s a; main = case f 10 of { g -> case f 20 of { h -> T (g 1) (h 2) (g 3) } };", "T 9 18 7");
        dueShown("f a = (\\x y -> a - x - y) 1; main = case f 10 of { g -> case f 20 of { h -> T (g 1) (h 2) (g 3) } };", "T 8 17 6");
        // A LEFT, a CHOICE, a CALL, an UPDATE, in one another as often as f calls itself.
        dueShown("f n = case n of { 0 -> 0; m -> f (n - 1) + n }; main = f 10;", "55");
        dueShown("f n = case n of { 0 -> 0; m -> f (n - 1) * 2 - n }; main = f 5;", "-57");
        dueShown("f n = case n of { 0 -> N; m -> case f (n - 1) of { z -> C n m z } }; main = f 3;", "C 3 3 (C 2 2 (C 1 1 N))");
        dueShown("f n = case n of { 0 -> \\x -> x; m -> \\x -> f (n - 1) (x * 10 + n) }; main = f 4 0;", "4321");
        dueShown("s a b = a * 10 + b; f n = case n of { 0 -> s 7; m -> (\\g -> s (g n)) (f (n - 1)) }; main = f 3 9;", "71239");
        dueShown("f n = let x = case n of { 0 -> 0; m -> f (n - 1) }; y = n in x * 10 + y; main = f 5;", "12345");
        // The same DELAY, made in each round, entered when all rounds are over.
        dueShown("f n k = case n of { 0 -> k; m -> f (n - 1) (C (n * n) k) }; main = f 4 N;", "C 1 (C 4 (C 9 (C 16 N)))");
    }

    // Each kind of STEP: behind each one cells made, cells reached, cells of frames, frames, DELAYS worked on, bytes.

    private static void dueTrace(String text, int answer, int[][] rows) {
        LazyHouse house = begun(text, 200);
        for (int i = 0; i < rows.length; i++) {
            due("step " + i + " of [" + text + "]", house.step(i == 0 ? 0 : 1), i == rows.length - 1 ? answer : 0);
            for (int what = 1; what <= 5; what++) {
                due("count(" + what + ") behind step " + i + " of [" + text + "]", house.count(what), rows[i][what - 1]);
            }
            due("size() behind step " + i + " of [" + text + "]", house.size(), rows[i][5]);
            due("count(0) of [" + text + "]", house.count(0), i);
        }
    }

    private static void traceOfSimple() {
        int[][] rows = {{0, 0, 2, 1, 0, 0}, {0, 0, 5, 2, 1, 0}, {0, 0, 5, 2, 1, 0}, {0, 0, 2, 1, 1, 0}, {0, 0, 0, 0, 1, 2}};
        dueTrace("main = 12;", 1, rows);
        dueTrace("main = Ab;", 1, rows);
        int[][] function = {{0, 0, 2, 1, 0, 0}, {0, 0, 5, 2, 1, 0}, {2, 2, 5, 2, 1, 0}, {2, 2, 2, 1, 1, 0}, {2, 2, 0, 0, 1, 1}};
        dueTrace("main = \\x -> x;", 1, function);
        // ENTER main, EVALUATE f, ENTER f, GIVE to the UPDATE, GIVE to the SHOW.
        int[][] defined = {
            {0, 0, 2, 1, 0, 0}, {0, 0, 5, 2, 1, 0}, {0, 0, 5, 2, 1, 0}, {0, 0, 5, 2, 1, 0}, {0, 0, 2, 1, 1, 0}, {0, 0, 0, 0, 1, 1},
        };
        dueTrace("f x = x; main = f;", 1, defined);
    }

    private static void traceOfDatum() {
        int[][] rows = {
            {0, 0, 2, 1, 0, 0}, {0, 0, 5, 2, 1, 0},
            // P of 5 fields, Q 2, a FUNCTION, a DELAY.
            {14, 14, 5, 2, 1, 0}, {14, 14, 2, 1, 1, 0},
            // "P ", "1 ", "(Q ", "2) ".
            {14, 14, 6, 2, 1, 2}, {14, 14, 6, 2, 1, 2}, {14, 14, 6, 2, 1, 4}, {14, 14, 6, 2, 1, 4}, {14, 14, 10, 3, 1, 7},
            {14, 14, 10, 3, 1, 7}, {14, 14, 6, 2, 1, 10},
            // "? ".
            {14, 14, 6, 2, 1, 10}, {14, 14, 6, 2, 1, 12},
            // ENTER the DELAY, EVALUATE the sign, 1, GIVE to the LEFT, 2, GIVE to the RIGHT, to the UPDATE: DONE, no cells; "3 ".
            {14, 14, 9, 3, 2, 12}, {14, 14, 11, 4, 2, 12}, {14, 14, 11, 4, 2, 12}, {14, 14, 12, 4, 2, 12}, {14, 14, 12, 4, 2, 12},
            {14, 14, 9, 3, 2, 12}, {14, 12, 6, 2, 2, 12}, {14, 12, 6, 2, 2, 14},
            // ENTER z, EVALUATE K, GIVE to the UPDATE, "K".
            {14, 12, 9, 3, 3, 14}, {14, 12, 9, 3, 3, 14}, {14, 12, 6, 2, 3, 14}, {14, 12, 0, 0, 3, 15},
        };
        dueTrace("main = P 1 (Q 2) (\\x -> x) (1 + 2) z; z = K;", 1, rows);
    }

    private static void traceOfCall() {
        int[][] rows = {
            {0, 0, 2, 1, 0, 0}, {0, 0, 5, 2, 1, 0}, {8, 8, 9, 3, 1, 0}, {8, 8, 9, 3, 1, 0}, {8, 8, 9, 3, 1, 0},
            // GIVE to the CALL: only b is FREE in f.
            {8, 3, 5, 2, 1, 0}, {8, 3, 5, 2, 1, 0}, {8, 3, 5, 2, 1, 0}, {8, 3, 2, 1, 1, 0}, {8, 3, 6, 2, 1, 2}, {8, 3, 6, 2, 1, 2},
            {8, 3, 0, 0, 1, 3},
        };
        dueTrace("f a b = b; main = f (P 1 2 3) (Q 1);", 1, rows);
    }

    private static void traceOfLet() {
        int[][] rows = {
            {0, 0, 2, 1, 0, 0}, {0, 0, 5, 2, 1, 0},
            // x a DELAY with y, y a DATUM, z a FUNCTION with x, u a DELAY.
            {12, 12, 5, 2, 1, 0}, {12, 12, 9, 3, 1, 0}, {12, 12, 9, 3, 1, 0}, {12, 12, 12, 4, 2, 0}, {12, 12, 14, 5, 2, 0},
            {12, 12, 14, 5, 2, 0}, {12, 12, 15, 5, 2, 0}, {12, 12, 15, 5, 2, 0}, {12, 12, 12, 4, 2, 0},
            // u is DONE; GIVE to the CHOICE; EVALUATE y, ENTER y, GIVE to the UPDATE; "P ".
            {12, 10, 9, 3, 2, 0}, {12, 10, 5, 2, 2, 0}, {12, 10, 5, 2, 2, 0}, {12, 10, 5, 2, 2, 0}, {12, 10, 2, 1, 2, 0}, {12, 10, 6, 2, 2, 2},
            // x is BUSY: 2 cells; EVALUATE y, ENTER y; DONE: none; "(P ".
            {12, 9, 9, 3, 3, 2}, {12, 9, 9, 3, 3, 2}, {12, 9, 9, 3, 3, 2}, {12, 7, 6, 2, 3, 2}, {12, 7, 10, 3, 3, 5},
        };
        dueTrace("main = let x = y; y = P x z; z a = x; u = 1 + 2 in case u of { 3 -> y; v -> x };", 0, rows);
    }

    private static void traceOfWordsLeft() {
        int[][] rows = {
            {0, 0, 2, 1, 0, 0}, {0, 0, 5, 2, 1, 0}, {0, 0, 10, 3, 1, 0}, {2, 2, 10, 3, 1, 0},
            // A CALL of the other two; a FUNCTION with a; its EXPRESSION; R.
            {2, 0, 9, 3, 1, 0}, {5, 3, 9, 3, 1, 0}, {5, 0, 5, 2, 1, 0}, {10, 5, 5, 2, 1, 0}, {10, 5, 2, 1, 1, 0}, {10, 5, 6, 2, 1, 2},
            {10, 5, 6, 2, 1, 2}, {10, 5, 6, 2, 1, 4}, {10, 5, 6, 2, 1, 4}, {10, 5, 6, 2, 1, 6}, {10, 5, 6, 2, 1, 6}, {10, 5, 0, 0, 1, 7},
        };
        dueTrace("main = (\\a -> \\b c -> R a b c) 1 2 3;", 1, rows);
    }

    private static void traceOfPart() {
        int[][] rows = {
            {0, 0, 2, 1, 0, 0}, {0, 0, 5, 2, 1, 0}, {2, 2, 5, 2, 1, 0}, {2, 2, 9, 3, 1, 0}, {2, 2, 9, 3, 1, 0}, {2, 2, 12, 4, 2, 0},
            {2, 2, 15, 5, 2, 0}, {2, 2, 15, 5, 2, 0}, {2, 2, 15, 5, 2, 0},
            // The PART of 4 cells; g is DONE by it; it is called.
            {6, 6, 12, 4, 2, 0}, {6, 4, 9, 3, 2, 0}, {6, 0, 5, 2, 2, 0}, {6, 0, 5, 2, 2, 0}, {6, 0, 5, 2, 2, 0}, {6, 0, 2, 1, 2, 0},
            {6, 0, 0, 0, 2, 1},
        };
        dueTrace("f a b c = a; main = let g = f 1 in g 2 3;", 1, rows);
    }

    // "let there be n, and it take m: n = m ..; n above m ..; n less than m .."

    private static void tooFewAndTooManyWords() {
        for (int takes = 1; takes <= 6; takes++) {
            for (int n = 1; n <= 9; n++) {
                String body = bodyFor(takes, n);
                String head = "f" + names("a", takes) + " = " + body + "; ";
                dueCalled(head + "main = f" + numbers(1, n) + ";", 5, 0, takes, n);
                dueCalled("main = (\\" + names("a", takes) + " -> " + body + ")" + numbers(1, n) + ";", 4, 2, takes, n);
            }
        }
    }

    private static String bodyFor(int takes, int n) {
        String result = "R" + names("a", takes);
        return n > takes ? "\\" + names("b", n - takes) + " -> " + result + names("b", n - takes) : result;
    }

    /** Behind so many steps the CALL of n words is given to; so many cells were made ahead of that. */
    private static void dueCalled(String text, int steps, int made, int takes, int n) {
        LazyHouse house = begun(text, 1000);
        due("steps of [" + text + "]", house.step(steps), 0);
        due("count(1) of [" + text + "]", house.count(1), made + (n < takes ? 3 + n : 0));
        due("count(3) of [" + text + "]", house.count(3), 5 + (n > takes ? 2 + n - takes : 0));
        due("count(4) of [" + text + "]", house.count(4), n > takes ? 3 : 2);
        due("the end of [" + text + "]", house.step(1000), 1);
        dueText("[" + text + "]", shown(house), n < takes ? "?" : "R" + numbers(1, n));
    }

    /** A PART of some words is called with n more. */
    private static void wordsOfPart() {
        for (int takes = 2; takes <= 5; takes++) {
            for (int held = 1; held < takes; held++) {
                for (int n = 1; n <= 6; n++) {
                    int all = held + n;
                    String body = bodyFor(takes, all);
                    String given = numbers(1, held) + ")" + numbers(held + 1, all) + ";";
                    String text = "f" + names("a", takes) + " = " + body + "; main = (f" + given;
                    dueCalled(text, 7, 3 + held, takes, all);
                    String function = "main = ((\\" + names("a", takes) + " -> " + body + ")" + given;
                    dueCalled(function, 6, 2 + 3 + held, takes, all);
                }
            }
        }
        // A FUNCTION's own words are there beside those that it was called with, in a PART, too.
        dueShown("g x y = (\\a b -> R x a y b) 3; main = g 1 2 4;", "R 1 3 2 4");
    }

    // ERROR 1.

    private static void errorBusy() {
        dueEnd("main = main;", 10, 11, 3);
        dueEnd("main = x; x = y; y = z; z = x;", 10, 11, 9);
        dueEnd("main = let x = x in x;", 10, 11, 6);
        dueEnd("main = let x = 1 + x in x;", 10, 11, 9);
        dueEnd("main = case main of { z -> 1 };", 10, 11, 4);
        dueEnd("main = 1 + main;", 10, 11, 6);
        dueEnd("f x = main; main = f 1;", 10, 11, 7);
        // DONE is no more BUSY, and what is not wanted is not entered.
        dueShown("main = let x = 1 in x + x;", "2");
        dueShown("x = 1; main = x + x;", "2");
        dueShown("main = let x = K x in case x of { K y -> 1 };", "1");
        dueShown("k a b = a; main = let x = k 1 x in x;", "1");
        dueEnd("main = K main;", 10, 18, 6 + 2 * 499);
    }

    // ERROR 2: "w must be a FUNCTION, a PART, or a DEFINITION with PARAMETERS"

    private static void errorCalled() {
        String head = "f a b = 7; d = 5; e = f 1; main = ";
        String[] refused = {"5", "0", "(K)", "(P 1)", "(1 + 2)", "(1 < 2)", "d", "(let x = 3 in x)", "((K))"};
        for (String called : refused) {
            due("a CALL of " + called, begun(head + called + " 1;", 100).step(1000), 12);
            due("a CALL of " + called, begun(head + called + " 1 2 3;", 100).step(1000), 12);
        }
        dueShown(head + "f 1 2;", "7");
        dueShown(head + "e 2;", "7");
        dueShown(head + "(f 1) 2;", "7");
        dueShown(head + "(\\x -> 7) 2;", "7");
        dueShown(head + "(let x = \\y -> 7 in x) 2;", "7");
        // A MAKER that is not in ( ) has fields, as many as one likes.
        dueShown(head + "K 1 2 3;", "K 1 2 3");
        // One word too many for what a call gives.
        due("one word too many", begun(head + "f 1 2 3;", 100).step(1000), 12);
        dueEnd("main = 1 2;", 10, 12, 4);
        dueEnd("f a = 1; main = f 2 3;", 10, 12, 7);
    }

    // ERROR 3, and "the first ALTERNATIVE with ..".

    private static void errorNoAlternative() {
        String[] values = {"5", "K", "(P 1)", "(P 1 2)", "(\\x -> x)", "(f 1)", "f", "(0 - 5)", "0"};
        String[] patterns = {"5", "4", "6", "0", "K", "K x", "L", "P", "P x", "P x y", "P x y z", "Q x", "z"};
        String[] fitting = {"5 z", "K z", "P_x z", "P_x_y z", "z", "z", "z", "z", "0 z"};
        for (int i = 0; i < values.length; i++) {
            for (String pattern : patterns) {
                boolean fits = (" " + fitting[i] + " ").contains(" " + pattern.replace(' ', '_') + " ");
                String text = "f a b = 1; main = case " + values[i] + " of { " + pattern + " -> Yes };";
                LazyHouse house = begun(text, 100);
                due("step(100) of [" + text + "]", house.step(100), fits ? 1 : 13);
                dueText("[" + text + "]", shown(house), fits ? "Yes" : "");
            }
        }
        // A maker is told by all of its letters, a number by all of its digits.
        due("another maker", begun("main = case Kk of { K -> 1; KK -> 2; Kkk -> 3; Kl -> 4 };", 10).step(100), 13);
        due("another number", begun("main = case 55 of { 5 -> 1; 555 -> 2; 54 -> 3; 56 -> 4 };", 10).step(100), 13);
        dueEnd("main = case 1 of { 2 -> 3 };", 10, 13, 4);
    }

    private static void firstAlternative() {
        dueShown("main = case 5 of { 4 -> A; 5 -> B; 5 -> C; z -> D };", "B");
        dueShown("main = case 5 of { z -> A; 5 -> B };", "A");
        dueShown("main = case 5 of { 4 -> A; y -> T y; z -> D };", "T 5");
        dueShown("main = case P 1 2 of { P -> A; P x -> B; P x y -> T y x; P u v -> D; z -> E };", "T 2 1");
        dueShown("main = case P 1 2 of { z -> z; P x y -> A };", "P 1 2");
        dueShown("main = case K of { P -> A; K x -> B; K -> C; z -> D };", "C");
        dueShown("main = case 1 < 2 of { False -> A; True -> B };", "B");
        dueShown("main = case (\\x -> x) of { 0 -> A; K -> B; z -> z 8 };", "8");
        dueShown("main = case 5 of { 005 -> A; z -> B };", "A");
        // Of 30 alternatives, each one.
        for (int n = 1; n <= 30; n++) {
            StringBuilder text = new StringBuilder("main = case " + n + " of {");
            for (int i = 1; i <= 30; i++) {
                text.append(i == 1 ? "" : ";").append(i + "->" + (i + 100));
            }
            dueShown(text + "};", "" + (n + 100));
        }
    }

    // ERROR 4: "w must be a number"; "RIGHT: likewise"

    private static void errorNoNumber() {
        String[] signs = {"+", "-", "*", "/", "%", "==", "<"};
        String[] refused = {"K", "(P 1)", "(\\x -> x)", "(f 1)", "f", "True", "(1 < 2)"};
        for (String sign : signs) {
            for (String value : refused) {
                due(value + sign + "1", begun("f a b = 1; main = " + value + " " + sign + " 1;", 100).step(100), 14);
                due("1" + sign + value, begun("f a b = 1; main = 1 " + sign + " " + value + ";", 100).step(100), 14);
                due(value + sign + "0", begun("f a b = 1; main = " + value + " " + sign + " 0;", 100).step(100), 14);
                due("0" + sign + value, begun("f a b = 1; main = 0 " + sign + " " + value + ";", 100).step(100), 14);
            }
            // The left side is looked at first: what the right side does is not known then.
            due("K" + sign + "what fails", begun("main = K " + sign + " (1 2);", 100).step(100), 14);
            due("what fails" + sign + "K", begun("main = (1 2) " + sign + " K;", 100).step(100), 12);
        }
        dueEnd("main = K + 1;", 10, 14, 4);
        dueEnd("main = 1 + K;", 10, 14, 6);
    }

    // ERROR 5: "if w is 0"

    private static void errorZero() {
        String[] lefts = {"0", "1", "(0 - 1)", LEAST, MOST};
        for (String left : lefts) {
            due(left + " / 0", begun("main = " + left + " / 0;", 10).step(100), 15);
            due(left + " % 0", begun("main = " + left + " % 0;", 10).step(100), 15);
            due(left + " / 1", begun("main = " + left + " / 1;", 10).step(100), 1);
            due(left + " % 1", begun("main = " + left + " % 1;", 10).step(100), 1);
            due(left + " / -1", begun("main = " + left + " / (0 - 1);", 10).step(100), 1);
            due(left + " % -1", begun("main = " + left + " % (0 - 1);", 10).step(100), 1);
            String[] others = {"+", "-", "*", "==", "<"};
            for (String sign : others) {
                due(left + sign + "0", begun("main = " + left + " " + sign + " 0;", 10).step(100), 1);
            }
        }
        dueShown("main = 0 / 5;", "0");
        dueShown("main = 0 % 5;", "0");
        dueEnd("main = 1 / 0;", 10, 15, 6);
        dueEnd("main = 1 % (65536 * 65536);", 10, 15, 10);
    }

    // "With an ERROR the machine stops: the step is counted, it makes nothing, and there are no frames any more."

    private static void errorsLeaveNothing() {
        dueStops("main = let x = x in x;", 10, 11, 6, 3);
        dueStops("main = (P 1 2) 3;", 10, 12, 4, 4);
        dueStops("main = case P 1 2 of { P x -> 3 };", 10, 13, 4, 4);
        dueStops("main = P 1 2 + 3;", 10, 14, 4, 4);
        dueStops("k x = 1 / 0; main = k (P 1 2);", 10, 15, 10, 4);
        // 5 cells of q come first; then the CALL would make P of 6 in its place.
        dueStops("k x = 1; main = case Q 1 2 3 of { q -> k (P q q q q) q };", 10, 16, 5, 5);
        dueStops("main = K" + many("k", 1500) + " 1;", 10, 18, 4, 3);
    }

    private static void dueStops(String text, int heap, int answer, int steps, int made) {
        LazyHouse house = begun(text, heap);
        due("a step ahead of the ERROR of [" + text + "]", house.step(steps - 1), 0);
        due("frames are there", house.count(4) > 0 && house.count(3) > 0 ? 1 : 0, 1);
        due("cells made ahead of the ERROR of [" + text + "]", house.count(1), made);
        int worked = house.count(5);
        int bytes = house.size();
        for (int i = 0; i < 3; i++) {
            due("step(" + i + ") of [" + text + "]", house.step(i == 0 ? 1 : i - 1), answer);
            due("count(0) of [" + text + "]", house.count(0), steps);
            due("count(1) of [" + text + "]", house.count(1), made);
            due("count(2) of [" + text + "]", house.count(2), answer == 18 ? 3 : 0);
            due("count(3) of [" + text + "]", house.count(3), 0);
            due("count(4) of [" + text + "]", house.count(4), 0);
            due("count(5) of [" + text + "]", house.count(5), worked);
            due("size() of [" + text + "]", house.size(), answer == 18 ? 1500 : bytes);
        }
        due("step(20000) of [" + text + "]", house.step(20000), answer);
        due("step(20001) of [" + text + "]", house.step(20001), -1);
        due("start() behind the ERROR", house.start(), 1);
        due("the same again", house.step(20000), answer);
        due("the same steps", house.count(0), steps);
    }

    // ERROR 8: "the TEXT would have more than 1500 bytes (it has the first 1500 then)"

    private static void textLimit() {
        for (int length = 1497; length <= 1503; length++) {
            // The letters of a MAKER alone.
            dueLong("K" + many("k", length - 1), "K" + many("k", length - 1));
            // Behind a blank, as the last field: digits, with - ahead, letters, ?.
            for (int digits = 1; digits <= 9; digits++) {
                String maker = "K" + many("k", length - digits - 2);
                String number = "123456789".substring(0, digits);
                dueLong(maker + " " + number, maker + " " + number);
                String shorter = maker.substring(1);
                dueLong("K" + shorter.substring(1) + " (0 - " + number + ")", "K" + shorter.substring(1) + " -" + number);
                dueLong(maker + " L" + many("l", digits - 1), maker + " L" + many("l", digits - 1));
            }
            String maker = "K" + many("k", length - 3);
            dueLong(maker + " (\\x -> x)", maker + " ?");
            // ( and ) of a DATUM within, and the blanks of several fields.
            maker = "K" + many("k", length - 7);
            dueLong(maker + " (L 1)", maker + " (L 1)");
            maker = "K" + many("k", length - 9);
            dueLong(maker + " 1 (L 2)", maker + " 1 (L 2)");
            dueLong(maker + " (L 1 2)", maker + " (L 1 2)");
            dueLong(maker + " 1 2 3 4", maker + " 1 2 3 4");
            maker = "K" + many("k", length - 12);
            dueLong(maker + " (L (M 1))", maker + " (L (M 1))");
        }
        dueStepOfText("K" + many("k", 1499) + " 1", 4);
        dueStepOfText("K" + many("k", 1497) + " 11", 6);
        dueStepOfText("K" + many("k", 1496) + " (L 1)", 6);
    }

    private static void dueLong(String expression, String whole) {
        String text = "main = " + expression + ";";
        LazyHouse house = begun(text, 100);
        boolean fits = whole.length() <= 1500;
        String what = "a TEXT of " + whole.length() + " that ends with " + whole.substring(whole.length() - 14);
        due(what, house.step(20000), fits ? 1 : 18);
        dueText(what, shownAtLast(text, 100), fits ? whole : whole.substring(0, 1500));
        due(what + ": its size()", house.size(), Math.min(1500, whole.length()));
        due(what + ": byte 1499", house.text(1499), whole.length() > 1499 ? whole.charAt(1499) : -1);
        due(what + ": byte 1500", house.text(1500), -1);
        due(what + ": frames", house.count(4), 0);
    }

    private static void dueStepOfText(String expression, int steps) {
        dueEnd("main = " + expression + ";", 100, 18, steps);
    }

    // "its digits (- ahead) come to the TEXT"

    private static void textOfNumbers() {
        int unit = 1;
        for (int digits = 1; digits <= 9; digits++) {
            for (int number = unit - 1; number <= unit + 1; number++) {
                dueShown("main = " + number + ";", "" + number);
                dueShown("main = 0 - " + number + ";", "" + -number);
            }
            unit *= 10;
        }
        dueShown("main = 999999999 + 1;", "1000000000");
        dueShown("main = 0 - 999999999 - 1;", "-1000000000");
        dueShown("main = 999999999;", "999999999");
        dueShown("main = T " + MOST + " " + LEAST + " 0 (0 - 0);", "T 2147483647 -2147483648 0 0");
    }

    // "( if within"; ") comes to the TEXT, if within"; "k less than j"; "k = j"

    private static void textOfParentheses() {
        dueShown("main = A;", "A");
        dueShown("main = A 1;", "A 1");
        dueShown("main = A B;", "A B");
        dueShown("main = A (B);", "A B");
        dueShown("main = A (B 1);", "A (B 1)");
        dueShown("main = A (B 1) 2;", "A (B 1) 2");
        dueShown("main = A 2 (B 1);", "A 2 (B 1)");
        dueShown("main = A (B (C (D 1)));", "A (B (C (D 1)))");
        dueShown("main = A (B (C (D E) F) G) H;", "A (B (C (D E) F) G) H");
        dueShown("main = A (0 - 1) (\\x -> x) (B (0 - 2) (\\x -> x));", "A -1 ? (B -2 ?)");
        for (int fields = 1; fields <= 40; fields++) {
            dueShown("main = A" + numbers(1, fields) + ";", "A" + numbers(1, fields));
            dueShown("main = A (B" + numbers(1, fields) + ");", "A (B" + numbers(1, fields) + ")");
        }
    }

    // ERROR 7: "the frames would take more than 3000 cells behind a step"

    private static final int AHEAD = 10 + 16 * 72;

    /** Behind AHEAD steps the frames take so many cells, and the machine is at EVALUATE what is tested. */
    private static String deep(String tested, int cells) {
        return "x = 1; id y = y; g a b c d n = case n of { 0 -> (" + tested + ")" + many(" 1", cells - 5 - 72 * 40 - 2)
            + "; m -> (g a b c d (n - 1))" + many(" 1", 38) + " }; main = g 1 2 3 4 72;";
    }

    private static LazyHouse deepHouse(String tested, int cells, int heap) {
        LazyHouse house = begun(deep(tested, cells), heap);
        due("ahead of [" + tested + "]", house.step(AHEAD), 0);
        due("cells ahead of [" + tested + "]", house.count(3), cells);
        due("frames ahead of [" + tested + "]", house.count(4), 75);
        return house;
    }

    private static void framesLimit() {
        // An UPDATE of a DEFINITION, and of an object.
        dueComes("x", 2, 3);
        dueComes("let y = 1 in y", 3, 3);
        // A CHOICE, a LEFT, a CALL of so many words.
        dueComes("case 1 of { z -> K }", 1, 2);
        dueComes("case 1 of { z -> a }", 1, 3);
        dueComes("case 1 of { z -> T a b a b }", 1, 4);
        dueComes("case 1 of { z -> T a b c d n }", 1, 7);
        dueComes("1 + 2", 1, 2);
        dueComes("1 + a", 1, 3);
        dueComes("1 + (T a b c d n)", 1, 7);
        dueComes("a 1", 1, 3);
        dueComes("a 1 2", 1, 4);
        dueComes("a b c d n a b c", 1, 9);
        // Two in two steps.
        dueComes("1 + (2 + 3) + 4", 2, 4);
        dueComes("case x of { z -> K }", 3, 5);
        dueComes("(a 1 2) 3", 2, 7);
    }

    /** In the last of so many steps the last one of frames comes that take so many cells together. */
    private static void dueComes(String tested, int steps, int cells) {
        for (int behind = 2998; behind <= 3000; behind++) {
            LazyHouse house = deepHouse(tested, behind - cells, 100);
            due("[" + tested + "] up to " + behind, house.step(steps), 0);
            due("cells behind [" + tested + "]", house.count(3), behind);
        }
        for (int behind = 3001; behind <= 3002; behind++) {
            LazyHouse house = deepHouse(tested, behind - cells, 100);
            if (behind == 3001) {
                due("[" + tested + "] a step ahead of " + behind, house.step(steps - 1), 0);
                due("[" + tested + "] up to " + behind, house.step(1), 17);
                due("steps of [" + tested + "]", house.count(0), AHEAD + steps);
            }
            due("[" + tested + "] up to " + behind, house.step(steps), 17);
            due("no cells behind [" + tested + "]", house.count(3), 0);
            due("no frames behind [" + tested + "]", house.count(4), 0);
            due("[" + tested + "] again", house.step(1), 17);
        }
    }

    // "(what goes being gone)"

    private static void framesLimitOfRight() {
        // A LEFT of no words has 2 cells; the RIGHT that comes when it goes has 3.
        LazyHouse least = deepHouse("1 + 2", 2997, 10);
        dueFrames(least, 2, 76, 2999);
        dueFrames(least, 1, 76, 3000);
        LazyHouse less = deepHouse("1 + 2", 2998, 10);
        dueFrames(less, 2, 76, 3000);
        due("a RIGHT is one cell too much", less.step(1), 17);
        due("in the third step", less.count(0), AHEAD + 3);
        // A LEFT that has as many cells, or more.
        LazyHouse same = deepHouse("1 + a", 2997, 10);
        dueFrames(same, 2, 76, 3000);
        dueFrames(same, 1, 76, 3000);
        LazyHouse more = deepHouse("1 + (T a b c)", 2995, 10);
        dueFrames(more, 2, 76, 3000);
        dueFrames(more, 1, 76, 2998);
        // K is no number: ERROR 4, though a RIGHT would be too much.
        LazyHouse maker = deepHouse("K + 2", 2998, 10);
        due("ERROR 4 at 3000 cells", maker.step(3), 14);
        // A CALL of two words goes, one of the other word comes; a CALL goes, an UPDATE comes a step later.
        LazyHouse call = deepHouse("id id 1", 2996, 10);
        dueFrames(call, 3, 76, 3000);
        dueFrames(call, 1, 76, 2999);
        // All is well at 3000 cells for what pushes nothing.
        LazyHouse none = deepHouse("case 7 of { z -> K a }", 2997, 10);
        dueFrames(none, 1, 76, 3000);
        dueFrames(none, 2, 75, 2997);
    }

    // "7 counts ahead of 6"

    private static void framesAheadOfHeap() {
        int[] fields = {8, 9, 10};
        int[] cells = {2996, 2997, 2998, 2999};
        for (int n : fields) {
            for (int ahead : cells) {
                LazyHouse house = deepHouse("a (P" + many(" 1", n) + ")", ahead, 10);
                int made = house.count(1);
                int want = ahead + 3 > 3000 ? 17 : 2 + n > 10 ? 16 : 0;
                due("frames of " + (ahead + 3) + ", objects of " + (2 + n) + " in 10", house.step(1), want);
                due("made by it", house.count(1) - made, want == 0 ? 2 + n : 0);
            }
        }
    }

    /** Each DATUM within another takes 3 bytes and 4 cells of frames, so the TEXT is full before the frames are. */
    private static void textAheadOfFrames() {
        LazyHouse house = begun("xs = K xs; main = xs;", 10);
        due("up to the TEXT's end", house.step(7 + 2 * 499 + 1), 0);
        due("its bytes", house.size(), 1499);
        dueFrames(house, 0, 501, 2002);
        due("one step more", house.step(1), 18);
        due("all bytes", house.size(), 1500);
        due("the last byte", house.text(1499), '(');
        dueFrames(house, 0, 0, 0);
    }
}
