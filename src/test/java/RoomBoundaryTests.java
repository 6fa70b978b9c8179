/** Section 4 of the document, ROOM: what takes room and what doesn't, in a heap that is just enough, and in one cell less. */
public final class RoomBoundaryTests extends Due {
    /** Makes a DATUM of 12 cells and forgets it. */
    private static final String TWELVE = "(case B 1 2 3 4 5 6 7 8 9 0 of { z -> 1 })";

    public static void main(String[] args) {
        madeAtOnce();
        partNeedsRoom();
        sizesOfHeap();
        heldByCall();
        heldByChoice();
        heldByLeft();
        notHeldByRight();
        heldByUpdate();
        heldByShown();
        heldByDefinitions();
        heldByEvaluate();
        heldByGive();
        doneTakesNoCells();
        busyTakesTwo();
        reachedThroughObjects();
        overAndError();
        garbage();
        chainsOfDelays();
        countingChangesNothing();
        finish("RoomBoundaryTests");
    }

    /** The text ends well in a heap of so many cells and more; in one cell less it ends with ERROR 6. */
    private static void dueLeast(String text, int cells) {
        for (int heap = Math.max(10, cells - 3); heap <= cells + 2; heap++) {
            due("[" + text + "] in " + heap, begun(text, heap).step(20000), heap < cells ? 16 : 1);
        }
    }

    /** With the ERROR nothing is made: so many cells were, in so many steps. */
    private static void dueNoRoom(String text, int heap, int steps, int made) {
        LazyHouse house = begun(text, heap);
        due("[" + text + "] in " + heap, house.step(20000), 16);
        due("its steps", house.count(0), steps);
        due("its cells", house.count(1), made);
        due("its frames", house.count(4), 0);
        LazyHouse other = begun(text, heap + 1);
        due("one step less in one cell more", other.step(steps - 1), 0);
        due("cells ahead of the step", other.count(1), made);
        other.step(1);
        due("the step makes what it could not make, in [" + text + "]", other.count(1) > made ? 1 : 0, 1);
    }

    private static String names(int n) {
        StringBuilder all = new StringBuilder();
        for (int i = 1; i <= n; i++) {
            all.append(" a").append(i);
        }
        return all.toString();
    }

    // "6 the heap has no ROOM for what a step makes"; "what it makes it makes at once, all together"

    private static void madeAtOnce() {
        for (int n = 9; n <= 30; n++) {
            String sum = names(n).replace(" ", "+");
            String given = "; main = f" + many(" 1", n) + ";";
            dueLeast("f" + names(n) + " = \\z -> 0" + sum + given, 2 + n);
            dueLeast("k x = 1; f" + names(n) + " = k (0" + sum + ")" + given, 2 + n);
            dueLeast("k x = 1; f" + names(n) + " = k (\\z -> 0" + sum + ")" + given, 2 + n);
            dueLeast("k x = 1; f" + names(n) + " = k (K" + names(n) + ")" + given, 2 + n);
            dueLeast("f" + names(n) + " = let x = 0" + sum + " in 1" + given, 2 + n);
            dueLeast("f" + names(n) + " = let x z = 0" + sum + " in 1" + given, 2 + n);
            dueLeast("f" + names(n) + " = let x = K" + names(n) + " in 1" + given, 2 + n);
            dueLeast("main = K" + many(" 1", n) + ";", 2 + n);
        }
        dueNoRoom("main = K 1 2 3 4 5 6 7 8 9;", 10, 2, 0);
        // What stands in the places and itself: 6 + 5 + 2 + 2.
        dueLeast("main = case P 1 (Q 1 2 3) (\\x -> x) (1 + 2) of { z -> 1 };", 15);
        dueNoRoom("main = case P 1 (Q 1 2 3) (\\x -> x) (1 + 2) of { z -> 1 };", 14, 3, 0);
        // All that stand in the places of a CALL: 5 + 3 + 2 + 6.
        dueLeast("k a b c d = 1; main = k (Q 1 2 3) (R 1) (1 + 2) (S 1 2 3 4);", 16);
        dueNoRoom("k a b c d = 1; main = k (Q 1 2 3) (R 1) (1 + 2) (S 1 2 3 4);", 15, 2, 0);
        // All of a let: 5 + 3 + 4 + 3.
        dueLeast("main = let a = Q 1 2 3; b = a; c = \\x -> a b; d x = x + d 1 in 1;", 15);
        dueNoRoom("main = let a = Q 1 2 3; b = a; c = \\x -> a b; d x = x + d 1 in 1;", 14, 2, 0);
    }

    /** A PART of n words takes 3 + n, beside what the CALL has and what is called. */
    private static void partNeedsRoom() {
        for (int n = 8; n <= 20; n++) {
            dueLeast("f" + names(n + 1) + " = 1; main = f" + many(" 1", n) + ";", 3 + n);
            dueLeast("main = (\\" + names(n + 1) + " -> 1)" + many(" 1", n) + ";", 2 + 3 + n);
            dueLeast("f" + names(n + 3) + " = 1; main = (f" + many(" 1", n) + ") 1 1;", 3 + n + 3 + n + 2);
        }
        dueNoRoom("f a b c d e = 1; main = f (P 1 2 3 4) 2;", 10, 5, 6);
        // 6 cells of a word of the CALL, and 5.
        dueLeast("f a b c d e = 1; main = f (P 1 2 3 4) 2;", 11);
        // 6 of p, which the FUNCTION of 3 has, 5 of the word, and 4.
        dueLeast("g p = (\\a b c -> p) (A 1 2 3); main = g (Q 1 2 3 4);", 18);
        // As many words as it takes: no PART. One less: a PART.
        dueLeast("f a b c d e = 1; main = f (P 1 2 3 4 5 6 7 8) 2 3 4 5;", 10);
        dueLeast("f a b c d e = 1; main = f (P 1 2 3 4 5 6 7 8) 2 3 4;", 17);
    }

    // "heap(n): The HEAP's size": 10 at least, 20000 at most, 2000 at first.

    private static void sizesOfHeap() {
        for (int heap = 10; heap <= 40; heap++) {
            // A round makes a DATUM of 5 cells, which has the one before.
            dueEnd("go k = go (P k 1 2); main = go 1;", heap, 16, 6 + 4 * (heap / 5));
        }
        int[] heaps = {1994, 1995, 1999, 2000, 2001};
        for (int heap : heaps) {
            dueEnd("go k = go (P k 1 2); main = go 1;", heap, 16, 6 + 4 * (heap / 5));
        }
        LazyHouse house = begun("go k = go (P k 1 2); main = go 1;", 20000);
        due("a heap of 20000", house.step(16005), 0);
        due("all of it", house.count(2), 20000);
        due("no cell more", house.step(1), 16);
        LazyHouse less = begun("go k = go (P k 1 2); main = go 1;", 19999);
        due("a heap of 19999", less.step(16001), 0);
        due("no room for the last one", less.step(1), 16);
        LazyHouse first = new LazyHouse();
        read(first, "go k = go (P k 1 2); main = go 1;");
        first.start();
        due("a new object's heap", first.step(20000), 16);
        due("its steps", first.count(0), 6 + 4 * 400);
    }

    // "objects whose places are words of frames"

    private static void heldByCall() {
        dueLeast("main = (case B 1 2 3 4 5 6 7 8 9 0 of { z -> \\x -> 1 }) (A 1 2 3);", 12 + 5);
        dueLeast("main = (case B 1 2 3 4 5 6 7 8 9 0 of { z -> \\x y -> 1 }) (A 1 2 3) (C 1);", 12 + 5 + 3);
        // Given to, it is gone: the word is not FREE in the FUNCTION.
        dueLeast("main = (\\x -> " + TWELVE + ") (A 1 2 3);", 12);
        dueLeast("main = (\\x -> case " + TWELVE + " of { z -> x }) (A 1 2 3);", 12 + 5);
        // The others stay in a CALL of their own.
        dueLeast("main = (\\x -> case " + TWELVE + " of { z -> \\y -> 1 }) (A 1 2 3) (C 1);", 12 + 3);
    }

    private static void heldByChoice() {
        dueLeast("f a = case " + TWELVE + " of { z -> a }; main = f (A 1 2 3);", 12 + 5);
        dueLeast("f a = case " + TWELVE + " of { 2 -> a; z -> 1 }; main = f (A 1 2 3);", 12 + 5);
        dueLeast("f a = case " + TWELVE + " of { z -> 1 }; main = f (A 1 2 3);", 12);
        // a is bound anew in the ALTERNATIVE.
        dueLeast("f a = case " + TWELVE + " of { a -> a }; main = f (A 1 2 3);", 12);
        // Given to, it is gone: the ALTERNATIVE that is taken has not a.
        dueLeast("f a = case 1 of { 2 -> a; z -> " + TWELVE + " }; main = f (A 1 2 3);", 12);
        dueLeast("f a = case 2 of { 2 -> case " + TWELVE + " of { z -> a }; z -> 1 }; main = f (A 1 2 3);", 12 + 5);
        // What is looked at is gone, but for the fields that are FREE.
        dueLeast("main = case A 1 (C 1 2) of { A p q -> case " + TWELVE + " of { z -> p } };", 12);
        dueLeast("main = case A 1 (C 1 2) of { A p q -> case " + TWELVE + " of { z -> q } };", 12 + 4);
        dueLeast("main = case A 1 (C 1 2) of { w -> case " + TWELVE + " of { z -> w } };", 12 + 4 + 4);
    }

    private static void heldByLeft() {
        dueLeast("f a = " + TWELVE + " + (case a of { z -> 1 }); main = f (A 1 2 3);", 12 + 5);
        dueLeast("f a = " + TWELVE + " + 1; main = f (A 1 2 3);", 12);
        dueLeast("f a = " + TWELVE + " + 1 + (case a of { z -> 1 }); main = f (A 1 2 3);", 12 + 5);
    }

    private static void notHeldByRight() {
        dueLeast("f a = (case a of { z -> 1 }) + " + TWELVE + "; main = f (A 1 2 3);", 12);
        dueLeast("f a = (case a of { z -> 1 }) + (case " + TWELVE + " of { y -> case a of { z -> 1 } }); main = f (A 1 2 3);", 12 + 5);
    }

    // "a BUSY one takes its 2 cells and no more, and can be reached by its UPDATE, too"

    private static void heldByUpdate() {
        dueLeast("main = let x = " + TWELVE + " in x;", 12 + 2);
        dueLeast("main = let x = let y = let w = " + TWELVE + " in w in y in x;", 12 + 6);
        // A DEFINITION takes no cells.
        dueLeast("x = " + TWELVE + "; main = x;", 12);
        dueLeast("main = " + TWELVE + ";", 12);
        // Its words are no more there: a of 5 cells is held until it is BUSY.
        dueLeast("f a = let x = case a of { u -> " + TWELVE + " } in x; main = f (A 1 2 3);", 12 + 2);
        dueLeast("f a = let x = case " + TWELVE + " of { u -> a } in x; main = f (A 1 2 3);", 12 + 2 + 5);
    }

    /** A REST has its DATUM, with all of its fields, those that were shown, too. */
    private static void heldByShown() {
        dueLeast("main = P " + TWELVE + " 2;", 4 + 2 + 12);
        dueLeast("main = P (Q 1 2) " + TWELVE + ";", 4 + 4 + 2 + 12);
        dueLeast("main = P (Q " + TWELVE + ");", 3 + 2 + 3 + 12);
        // The first field is DONE by a number when the second is worked on.
        dueLeast("main = P " + TWELVE + " " + TWELVE + ";", 4 + 2 + 2 + 12);
    }

    // "words by which DEFINITIONS without PARAMETERS are DONE"

    private static void heldByDefinitions() {
        dueLeast("d = A 1 2 3; main = case d of { z -> " + TWELVE + " };", 5 + 12);
        dueLeast("d = A 1 2 3; e = C 1; main = case d of { z -> case e of { y -> " + TWELVE + " } };", 5 + 3 + 12);
        // Not wanted, not made.
        dueLeast("d = A 1 2 3; main = case K d of { z -> " + TWELVE + " };", 12);
        dueLeast("d = A 1 2 3; main = case d of { A p q r -> p + " + TWELVE + " };", 5 + 12);
        dueLeast("d = 5; main = case d of { z -> " + TWELVE + " };", 12);
        dueLeast("f x = A 1 2 3; main = case f 1 of { z -> " + TWELVE + " };", 12);
        // What its word reaches can be reached.
        dueLeast("d = A (C 1 2) e; e = D 1 2 3; main = case d of { z -> " + TWELVE + " };", 4 + 4 + 12);
        dueLeast("d = \\x -> 1; main = case d of { z -> " + TWELVE + " };", 2 + 12);
        dueLeast("f x y = 1; d = f 1; main = case d of { z -> " + TWELVE + " };", 4 + 12);
        dueLeast("d = e; e = A 1 2 3; main = case d of { z -> " + TWELVE + " };", 5 + 12);
    }

    // "of EVALUATE (what is FREE in its EXPRESSION)"

    private static void heldByEvaluate() {
        dueLeast("f a b = B b 1 2 3 4 5 6 7 8 9; main = f (A 1 2 3) (C 1);", 12 + 3);
        dueLeast("f a b = B a b 2 3 4 5 6 7 8 9; main = f (A 1 2 3) (C 1);", 12 + 5 + 3);
        dueLeast("f a b = let x = B 1 2 3 4 5 6 7 8 9 0 in 1; main = f (A 1 2 3) (C 1);", 12);
        dueLeast("f a b = let x = B 1 2 3 4 5 6 7 8 9 0 in b; main = f (A 1 2 3) (C 1);", 12 + 3);
        // As the step begins a is FREE in the let, though nothing has it behind the step.
        dueLeast("f a = let x = B a 1 2 3 4 5 6 7 8 9 in 1; main = f (A 1 2 3);", 12 + 5);
        dueLeast("f a = let x y = B a 1 2; z = B 1 2 3 4 5 6 7 8 9 0 in 1; main = f (A 1 2 3);", 12 + 3 + 5);
        dueLeast("k x = 1; f a = k (B a 1 2 3 4 5 6 7 8 9); main = f (A 1 2 3);", 12 + 5);
        // b is FREE in what stands behind a let, or within a FUNCTION that is made.
        dueLeast("f a b = \\x -> b x 1 2 3 4 5; main = f (A 1 2 3 4 5 6) (C 1 2 3 4 5 6 7);", 8 + 9);
        dueLeast("f a b = let x = B 1 2 3 4 5 6 7 8 9 0 in \\y -> b; main = f (A 1 2 3) (C 1);", 12 + 3);
        LazyHouse house = begun("f a b c = case a of { z -> b }; main = f (A 1 2 3) (C 1) (D 1 2 3 4);", 100);
        int[] steps = {2, 3, 1, 2, 1, 1};
        // The CALL; a and b; the CHOICE with b, and a; ENTER and GIVE a; b.
        int[] reached = {14, 8, 8, 8, 3, 3};
        for (int i = 0; i < steps.length; i++) {
            house.step(steps[i]);
            due("reached behind " + house.count(0), house.count(2), reached[i]);
        }
    }

    // "(of a GIVE to a frame: with that frame and w)"; "ENTER, GIVE"

    private static void heldByGive() {
        LazyHouse house = begun("f a = case a of { A x -> x }; main = f (A (C 1 2));", 100);
        house.step(4);
        due("the word of the CALL", house.count(2), 2);
        house.step(4);
        due("a DELAY that is BUSY", house.count(2), 2);
        house.step(1);
        due("GIVE a DATUM", house.count(2), 2 + 3 + 4);
        house.step(1);
        due("it is DONE", house.count(2), 3 + 4);
        house.step(1);
        due("EVALUATE x", house.count(2), 4);
        house.step(1);
        due("ENTER it", house.count(2), 4);
        house.step(1);
        due("GIVE it", house.count(2), 4);
        house.step(1);
        due("main is DONE by it", house.count(2), 4);
        // A PART is made beside the one that is called, though that is gone then.
        LazyHouse part = begun("f a b c d = 1; main = f 1 2 3;", 100);
        part.step(5);
        due("a PART", part.count(2), 6);
        dueLeast("f a b c d = 1; main = (f 1 2) 3;", 5 + 6);
        LazyHouse second = begun("f a b c d = 1; main = (f 1 2) 3;", 11);
        second.step(7);
        due("the second PART alone", second.count(2), 6);
        due("both were made", second.count(1), 11);
    }

    // "A DONE object takes no cells (what its word reaches can be reached)"

    private static void doneTakesNoCells() {
        // x of 3 cells is DONE by a number, by a MAKER, by a DEFINITION; both x and P x are held.
        String[] words = {"n + 1", "case n of { 1 -> K; z -> L }", "case n of { z -> f }"};
        for (String word : words) {
            dueLeast("f a = 1; g n = let x = " + word + " in case x of { y -> case P x of { p -> case " + TWELVE + " of { u -> p } } }; "
                + "main = g 1;", 3 + 12);
        }
        // By a DATUM of 4 cells: those count, once, wherever x stands.
        dueLeast("h n = Q n n; g n = let x = h n in case x of { y -> case P x y x of { p -> case " + TWELVE + " of { u -> p } } }; "
            + "main = g 1;", 5 + 4 + 12);
        LazyHouse house = begun("g n = let x = n + 1; y = x; w = y in case w of { z -> P w x y }; main = g 1;", 100);
        house.step(6);
        due("three DELAYS with a word each", house.count(2), 9);
        house.step(20000);
        due("all DONE by a number: the DATUM alone", house.count(2), 5);
        due("all were made", house.count(1), 9 + 5);
        // A chain of DELAYS, each DONE by the word of the next.
        dueLeast("g n = let x = P n 1 2; y = x; w = y; v = w in case v of { z -> case " + TWELVE + " of { u -> T v w y x } }; main = g 1;",
            5 + 12);
    }

    private static void busyTakesTwo() {
        // x has a, b and c; they are looked at, then gone, while x is BUSY.
        for (int fields = 1; fields <= 5; fields++) {
            String a = "(A" + many(" 1", fields) + ")";
            dueLeast("f a b c = let x = case T a b c of { t -> " + TWELVE + " } in x; main = f " + a + " " + a + " " + a + ";",
                Math.max(2 + 12, 3 * (2 + fields) + 5 + 2));
        }
        LazyHouse house = begun("f a b = let x = case a of { z -> case b of { y -> x } } in x; main = f (A 1) (C 1 2);", 100);
        house.step(6);
        due("a DELAY with a, b and itself", house.count(2), 5 + 3 + 4);
        house.step(2);
        // Its words are those of EVALUATE now, and x's own place one of them.
        due("BUSY: 2 cells", house.count(2), 2 + 3 + 4);
        due("the end", house.step(20000), 11);
        due("nothing is reached", house.count(2), 0);
        // A BUSY one that is a word of a DATUM, too.
        LazyHouse held = begun("f a = let x = case a of { z -> K } in P x; main = f (A 1);", 100);
        held.step(9);
        due("P and its DELAY, which has a", held.count(2), 3 + 3 + 3);
        held.step(1);
        due("P, BUSY, a", held.count(2), 3 + 2 + 3);
        held.step(4);
        due("P, BUSY", held.count(2), 3 + 2);
        held.step(20000);
        due("P alone", held.count(2), 3);
    }

    // "words of objects that can be reached"

    private static void reachedThroughObjects() {
        String a = "(A 1 2)";
        // A DATUM, a FUNCTION, a PART of a DEFINITION, a PART of a FUNCTION, a DELAY.
        dueReached("P a", a, 3 + 4);
        dueReached("\\x -> a", a, 3 + 4);
        dueReached("k a", a, 4 + 4);
        dueReached("(\\x y -> a) a", a, 3 + 4 + 4);
        dueReached("P (1 + a)", a, 3 + 3 + 4);
        dueReached("P (Q a) (R a)", a, 4 + 3 + 3 + 4);
        dueReached("P (\\x -> k a) a", a, 4 + 3 + 4);
        // Each object once, whatever reaches it; and round in a ring.
        dueReached("P a a a a", a, 6 + 4);
        dueReached("let x = P y a; y = Q x a in x", a, 4 + 4 + 4);
        dueReached("let x y = x a in x", a, 4 + 4);
    }

    /** Behind the UPDATE of main, which is given the word of this body, so many cells can be reached. */
    private static void dueReached(String body, String argument, int cells) {
        String text = "k x y = 1; main = g " + argument + "; g a = " + body + ";";
        LazyHouse house = begun(text, 100);
        for (int i = 0; i < 40 && house.count(4) != 1 || house.count(0) == 0; i++) {
            house.step(1);
        }
        due("reached by [" + body + "]", house.count(2), cells);
    }

    // "(none of these when it is OVER, or had an ERROR)"

    private static void overAndError() {
        LazyHouse over = begun("d = A 1 2; main = case d of { z -> case P 1 2 3 of { y -> 7 } };", 100);
        due("OVER", over.step(1000), 1);
        due("what d is DONE by", over.count(2), 4);
        LazyHouse error = begun("d = A 1 2; main = case d of { z -> case P 1 2 3 of { y -> y + 7 } };", 100);
        due("a step ahead of the ERROR", error.step(13), 0);
        due("d, and P", error.count(2), 4 + 5);
        due("ERROR 4", error.step(1), 14);
        due("what d is DONE by", error.count(2), 4);
        // An ERROR while d is BUSY: it is not DONE.
        LazyHouse busy = begun("d = case A 1 2 of { z -> z + 1 }; main = d;", 100);
        due("ERROR 4 in d", busy.step(1000), 14);
        due("nothing", busy.count(2), 0);
        // An ERROR while an object is BUSY that d reaches: its 2 cells.
        LazyHouse inner = begun("d = f (A 1); f a = P (a + 1); main = case d of { P y -> y + 1 };", 100);
        due("ERROR 4 in a field of d", inner.step(1000), 14);
        due("P, and a BUSY field", inner.count(2), 3 + 2);
        // With ERROR 6, too.
        LazyHouse room = begun("d = A 1 2; main = case d of { z -> P 1 2 3 4 5 6 7 };", 10);
        due("ERROR 6", room.step(1000), 16);
        due("d", room.count(2), 4);
        due("made", room.count(1), 4);
    }

    // "what can't be reached any more takes no room"

    private static void garbage() {
        String[] rounds = {
            "case P n n n of { z -> go n }", "case \\x -> n of { z -> go n }", "case k (n + 1) 2 of { z -> go n }", "go (case n of { 1 -> 1; z -> 1 })",
            "let x = P y 1; y = Q x n in go n", "let x y = x n in go n", "case f n n of { z -> go n }", "let x = n in case x of { z -> go z }",
            "let x = f n in case x 1 of { z -> go n }", "let x = y; y = P n in case x of { z -> go n }",
        };
        for (String round : rounds) {
            // A word that is worked on is DONE by a number here before the next round begins.
            String text = "f a b c = 1; k a b = b; go n = case n of { m -> " + round + " }; main = go 1;";
            LazyHouse house = begun(text, 10);
            for (int i = 0; i < 3; i++) {
                due("an endless round of [" + round + "]", house.step(20000), 0);
            }
            due("cells made are many", house.count(1) > 10000 ? 1 : 0, 1);
            due("cells reached are few", house.count(2) <= 10 ? 1 : 0, 1);
        }
    }

    /** loop leaves a DELAY of 3 cells each round, which has the one before. */
    private static void chainsOfDelays() {
        for (int heap = 10; heap <= 60; heap++) {
            dueEnd("loop n = loop (n + 1); main = loop 0;", heap, 16, 6 + 4 * (heap / 3));
        }
        LazyHouse house = begun("loop n = loop (n + 1); main = loop 0;", 20000);
        due("a chain up to 20000 cells", house.step(20000), 0);
        due("and on", house.step(20000), 16);
        due("its steps", house.count(0), 6 + 4 * 6666);
        due("its cells", house.count(1), 3 * 6666);
        // Counted down to 0 all is DONE.
        dueLeast("sum n s = case n of { 0 -> s; m -> case s of { t -> sum (n - 1) (s + n) } }; main = sum 50 0;", 10);
    }

    /** What is asked between two steps moves nothing that can be seen. */
    private static void countingChangesNothing() {
        String text = "from n = C n (from (n + 1)); map f xs = case xs of { C y ys -> C (f y) (map f ys); z -> z }; "
            + "take n xs = case n of { 0 -> N; m -> case xs of { C y ys -> C y (take (n - 1) ys) } }; "
            + "twice f x = f (f x); main = let ones = C 1 ones in T (take 4 (map (twice (\\a -> a * 3)) (from 2))) (take 2 ones);";
        LazyHouse plain = begun(text, 60);
        due("the end", plain.step(20000), 1);
        LazyHouse asked = begun(text, 60);
        int calls = 0;
        while (calls < 140 && asked.step(3) == 0) {
            int reached = asked.count(2);
            due("asked twice", asked.count(2), reached);
            due("no more than the heap", reached <= 60 ? 1 : 0, 1);
            calls++;
        }
        due("the same end", asked.step(0), 1);
        for (int what = 0; what <= 6; what++) {
            due("the same count(" + what + ")", asked.count(what), plain.count(what));
        }
        dueText("the same text", shown(asked), "T (C 18 (C 27 (C 36 (C 45 N)))) (C 1 (C 1 N))");
        dueText("the text", shown(plain), "T (C 18 (C 27 (C 36 (C 45 N)))) (C 1 (C 1 N))");
    }
}
