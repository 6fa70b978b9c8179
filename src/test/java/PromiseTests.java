/** Goes through the ten promises one by one: ordinary inputs, the edges that the document names, wrong inputs. */
public final class PromiseTests extends Due {
    public static void main(String[] args) {
        newObject();
        feed();
        end();
        programOrdinary();
        programWords();
        programWrongWords();
        programTwice();
        programNesting();
        programBinding();
        heap();
        start();
        stepAnswers();
        stepErrors();
        stepOrderOfErrors();
        stepMeaning();
        stepMade();
        stepShows();
        stepRoom();
        size();
        text();
        count();
        finish("PromiseTests");
    }

    // Promise 1.

    private static void newObject() {
        LazyHouse house = new LazyHouse();
        for (int what = 0; what <= 6; what++) {
            due("new: count(" + what + ")", house.count(what), 0);
        }
        due("new: size()", house.size(), 0);
        due("new: text(0)", house.text(0), -1);
        due("new: start()", house.start(), 0);
        due("new: step(0)", house.step(0), -1);
        due("new: program()", new LazyHouse().program(), -1);
        heapAtFirst();
    }

    /** 399 rounds leave a DATUM of 5 cells each; then one of 5 has room in 2000 cells, one of 6 hasn't. */
    private static void heapAtFirst() {
        for (int fields = 1; fields < 6; fields++) {
            String text = "up m = m + 1; go n k = case n of { 399 -> case Q" + many(" 1", fields) + " of { z -> case k of { y -> 2 } }; "
                + "m -> case up n of { p -> go p (P k 7 8) } }; main = go 0 Nil;";
            LazyHouse house = new LazyHouse();
            read(house, text);
            house.start();
            due("a new object's heap with " + fields, house.step(20000), fields <= 3 ? 1 : 16);
            due("the same heap told", begun(text, 2000).step(20000), fields <= 3 ? 1 : 16);
        }
    }

    // Promise 2.

    private static void feed() {
        LazyHouse house = new LazyHouse();
        for (int i = 1; i <= 100; i++) {
            due("feed number " + i, house.feed(0x6d61696e, 0x203d2031, 0x3b202020, 0x20202020, 0x20202020), i * 20);
        }
        due("feed beyond 2000", house.feed(1, 2, 3, 4, 5), -1);
        due("the tape behind it", house.count(6), 2000);
        house.end(1981);
        due("feed of 1981 and 20", house.feed(1, 2, 3, 4, 5), -1);
        due("the tape of 1981", house.count(6), 1981);
        house.end(1980);
        due("feed of 1980 and 20", house.feed(0x20202020, 0x20202020, 0x20202020, 0x20202020, 0x20202020), 2000);
        house.end(20);
        due("the highest byte comes first", house.program(), 1);
        house.start();
        house.step(100);
        dueText("main = 1", shown(house), "1");
        // All five numbers, in their order, and bytes above 127.
        LazyHouse five = new LazyHouse();
        five.feed(0x6d61696e, 0x3d416263, 0x44653132, 0x33343546, 0x67203b20);
        due("five numbers", five.program(), 1);
        five.start();
        five.step(100);
        dueText("five numbers", shown(five), "AbcDe12345Fg");
        dueWrong("main = 1 \u0080;", 9);
        dueWrong("main = 1 \u00ff;", 9);
    }

    // Promise 3.

    private static void end() {
        LazyHouse house = new LazyHouse();
        due("end(0) of an empty tape", house.end(0), 0);
        due("end(1) of an empty tape", house.end(1), -1);
        house.feed(0x6d61696e, 0x203d2031, 0x323b2020, 0, 0);
        due("end(21) of 20", house.end(21), -1);
        due("end(-1)", house.end(-1), -1);
        due("end(least)", house.end(Integer.MIN_VALUE), -1);
        due("end(most)", house.end(Integer.MAX_VALUE), -1);
        due("nothing is done", house.count(6), 20);
        due("end(20)", house.end(20), 20);
        due("end(10)", house.end(10), 10);
        due("end(11) behind it", house.end(11), -1);
        due("count(6)", house.count(6), 10);
        due("the bytes that it keeps", house.program(), 1);
        due("the tape is empty then", house.count(6), 0);
        due("end(1) then", house.end(1), -1);
    }

    // Promise 4.

    private static void programOrdinary() {
        dueProgram("main = 1;", 1);
        dueProgram("main=1;", 1);
        dueProgram("\n main \n=\n1\n;\n ", 1);
        dueProgram("f x = x; g = 2; main = f g;", 3);
        LazyHouse house = new LazyHouse();
        read(house, "main = 1;");
        house.start();
        due("a machine", house.step(0), 0);
        due("a program again", read(house, "f = 1; main = 1;"), 2);
        due("no machine then", house.step(0), -1);
        house.start();
        put(house, "main = ");
        due("WRONG at its end", house.program(), -8);
        due("the tape is empty", house.count(6), 0);
        due("no machine", house.step(1), -1);
        due("no program", house.start(), 0);
        due("nothing of the one before", read(house, "f = 1; main = f + g;"), -19);
        due("a good one behind a WRONG one", read(house, "main = 1;"), 1);
        due("which can start", house.start(), 1);
        programOfAllBytes();
        programOfManyDefinitions();
    }

    /** A tape of 2000 bytes is a program like others. */
    private static void programOfAllBytes() {
        String text = "main = G " + many("(f 1) ", 100) + "f " + many("12345 ", 229) + "La; f x = True;";
        due("bytes", text.length(), 2000);
        LazyHouse house = begun(text, 20000);
        due("all bytes", house.step(20000), 18);
        due("fields", house.count(1), 2 + 331 + 200);
        dueProgram(text.substring(0, 1999) + " ", -2001);
        dueProgram(text.substring(0, 1999) + "$", -2000);
        dueShown(many(" ", 1986) + "main = 6 == 7;", "False");
        dueShown(many("\n", 1992) + "main=Ab;", "Ab");
    }

    private static void programOfManyDefinitions() {
        StringBuilder text = new StringBuilder("main = d99;d0 = 5;");
        for (int i = 1; i < 100; i++) {
            text.append("d" + i + " = 1 + d" + (i - 1) + ";");
        }
        LazyHouse house = begun(text.toString(), 10);
        due("a hundred definitions", house.step(20000), 1);
        dueText("a hundred definitions", shown(house), "104");
        due("all worked on", house.count(5), 101);
    }

    private static void programWords() {
        dueShown("main = A b1B2 c; b1B2 = 1; c = Z9z;", "A 1 Z9z");
        dueShown("letx = 1; inn = 2; casE = 3; ofof = 4; main = T letx inn casE ofof;", "T 1 2 3 4");
        dueShown("main = 000000012;", "12");
        dueShown("main = 999999999;", "999999999");
        dueShown("main = case 12 of {12->Yes;x->No};", "Yes");
        // All digits that stand there, then a NAME: a CALL of 12.
        dueEnd("f x = x; main = 12f;", 10, 12, 4);
    }

    private static void programWrongWords() {
        String[] texts = {
            "", "   ", "main", "main =", "main = 1", "main = 1;;", "Main = 1;", "1 = 2;", "main 1 = 2;", "= 1;",
            "main == 1;", "main = let;", "main = let in 1;", "main = let x in 1;", "main = let x = 1 1;",
            "main = let x = 1; in x;", "main = let x = 1;", "main = \\ -> 1;", "main = \\x 1;", "main = \\x = 1;",
            "main = \\1 -> 1;", "main = case 1 { 1 -> 2 };", "main = case 1 of 1 -> 2;", "main = case 1 of { };",
            "main = case 1 of { 1 2 };", "main = case 1 of { 1 -> 2; };", "main = case 1 of { 1 -> 2 ;",
            "main = case 1 of { 1 x -> 2 };", "main = case 1 of { x y -> 2 };", "main = case 1 of { (x) -> 2 };",
            "main = case 1 of { A 1 -> 2 };", "main = case 1 of { x -> 2 } 3;", "main = case 1 of { x -> 2 } + 3;",
            "main = 1 < 2 < 3;", "main = 1 == 2 == 3;", "main = 1 < 2 == 3;", "main = + 1;", "main = 1 +;",
            "main = - 1;", "main = 1 * - 1;", "main = 1 + \\x -> x;", "main = F \\x -> x;", "main = F let x = 1 in x;",
            "main = ();", "main = (1;", "main = 1);", "main = (1", "main = 1 $ 2;", "main = 1 > 2;", "main = 1 - > 2;",
            "main = 1234567890;", "main = 0000000000;", "main = 1 1234567890 $;", "main = 1\t;", "main = 1\r;",
            "main = 1; x", "main = 1; in = 2;", "main = in;", "main = of;", "main = x=1;", "main = 1 === 1;",
            "main = let in = 1 in 2;", "main of = 1;", "main = {1};", "main = A { };", "main = 1 -> 2;", "\0main = 1;",
        };
        int[] places = {
            0, 3, 4, 6, 8, 9, 0, 0, 5, 0,
            5, 10, 11, 13, 19,
            18, 17, 9, 10, 10,
            8, 14, 17, 19,
            21, 27, 27,
            21, 21, 19,
            21, 28, 28,
            13, 14, 13, 7, 10,
            7, 11, 11, 9, 9,
            8, 9, 8, 9, 9, 9, 11,
            7, 7, 9, 8, 8,
            11, 10, 7, 7, 8, 11,
            11, 5, 7, 9, 9, 0,
        };
        due("as many texts as places", texts.length, places.length);
        for (int i = 0; i < texts.length && i < places.length; i++) {
            dueWrong(texts[i], places[i]);
        }
    }

    private static void programTwice() {
        dueWrong("f = 1; g = 2; f = 3; main = 1;", 14);
        dueWrong("main = 1; main", 10);
        dueWrong("f x y x = 1; main = 1;", 6);
        dueProgram("f f = f; main = 1;", 2);
        dueWrong("main = let a = 1; b = 2; a = 3 in a;", 25);
        dueWrong("main = let a = let b = 1 in b; a = 3 in a;", 31);
        dueProgram("main = let a = let a = 1 in a; b = a in a;", 1);
        dueProgram("main = let a a = a in a;", 1);
        dueWrong("main = let f a b a = 1 in f;", 17);
        dueWrong("main = \\a b b -> 1;", 12);
        dueProgram("main = \\a -> \\a -> a;", 1);
        dueWrong("main = case 1 of { P a b a -> 1 };", 25);
        dueProgram("main = case 1 of { P a b -> 1; P a b -> 2; a -> a };", 1);
        dueProgram("f x = \\x -> let x = x in case x of { x -> x }; main = 1;", 2);
        // The first place as it is read: the second a stands ahead of the word that can't stand there.
        dueWrong("main = \\a a 1;", 10);
        dueWrong("main = \\a 1 a a;", 10);
        // All this comes ahead of a name that is not bound.
        dueWrong("main = x; main = 2;", 10);
        dueWrong("main = x; f = ;", 14);
    }

    private static void programNesting() {
        dueProgram("main = " + many("(", 60) + "1" + many(")", 60) + ";", 1);
        dueWrong("main = " + many("(", 61) + "1" + many(")", 61) + ";", 67);
        dueWrong("main = " + many("(", 60) + "let x = 1 in x" + many(")", 60) + ";", 67);
        dueWrong("main = " + many("(", 60) + "\\x -> x" + many(")", 60) + ";", 67);
        dueWrong("main = " + many("(", 60) + "case 1 of { x -> x }" + many(")", 60) + ";", 67);
        dueProgram("main = " + many("\\x -> ", 60) + "1;", 1);
        dueWrong("main = " + many("\\x -> ", 61) + "1;", 7 + 360);
        dueProgram("main = " + many("let x = 1 in ", 60) + "1;", 1);
        dueWrong("main = " + many("let x = 1 in ", 61) + "1;", 7 + 60 * 13);
        dueProgram("main = " + many("let x = ", 60) + "1" + many(" in 1", 60) + ";", 1);
        dueWrong("main = " + many("let x = ", 61) + "1" + many(" in 1", 61) + ";", 7 + 60 * 8);
        dueProgram("main = " + many("let x y = ", 60) + "1" + many(" in 1", 60) + ";", 1);
        dueWrong("main = " + many("let x y = ", 61) + "1" + many(" in 1", 61) + ";", 7 + 60 * 10);
        dueProgram("main = " + many("case ", 60) + "1" + many(" of { x -> 1 }", 60) + ";", 1);
        dueWrong("main = " + many("case ", 61) + "1" + many(" of { x -> 1 }", 61) + ";", 7 + 60 * 5);
        dueProgram("main = " + many("case 1 of { x -> ", 60) + "1" + many(" }", 60) + ";", 1);
        dueWrong("main = " + many("case 1 of { x -> ", 61) + "1" + many(" }", 61) + ";", 7 + 60 * 17);
        // What is closed counts no more.
        dueProgram("main = " + many("(1) + ", 200) + "1;", 1);
        dueProgram("main = F " + many("(let x = 1 in x) (\\x -> x) (case 1 of { x -> x }) ", 30) + ";", 1);
        // 61 of them where the 61st can't stand: the same place.
        dueWrong("main = " + many("(", 60) + "1 case 1 of { x -> x }" + many(")", 60) + ";", 69);
    }

    private static void programBinding() {
        dueWrong("main = x;", 7);
        dueWrong("main = f (g 1); f y = h;", 10);
        dueWrong("f x = 1; main = x;", 16);
        dueWrong("main = (\\x -> x) x;", 17);
        dueWrong("main = let a = 1 in a + b;", 24);
        dueWrong("main = (let a = 1 in a) + a;", 26);
        dueWrong("main = case a of { a -> a };", 12);
        dueWrong("main = case 1 of { P a -> a; Q -> a };", 34);
        dueWrong("main = let f x = x; g = x in g;", 24);
        dueWrong("main x = y;", 9);
        dueWrong("main x = x;", 11);
        dueWrong("f = 1;", 6);
        dueWrong("f = 1;  ", 8);
        dueWrong("f = g;", 4);
        dueWrong("mai = 1; mainn = 2; m = \\main -> main;", 38);
        dueShown("main = let a = b; b = 4 in a;", "4");
        dueShown("x = 1; f x = T x (\\x -> x) (let x = 3 in x) (case 4 of { x -> x }); main = T x (f 2);", "T 1 (T 2 ? 3 4)");
        dueShown("main = (\\x -> (\\x -> x) 2 + x) 5;", "7");
        dueShown("main = case P 1 2 of { P a b -> case P 3 4 of { P c a -> T a b c } };", "T 4 2 3");
        dueShown("f = 3; main = let f f = f + 1 in f 1;", "2");
        dueShown("main = let x = 1; y = let x = 2; z = x in z in T x y;", "T 1 2");
    }

    // Promise 5.

    private static void heap() {
        LazyHouse house = new LazyHouse();
        due("heap(10)", house.heap(10), 1);
        due("heap(20000)", house.heap(20000), 1);
        due("heap(9)", house.heap(9), -1);
        due("heap(20001)", house.heap(20001), -1);
        due("heap(0)", house.heap(0), -1);
        due("heap(-1)", house.heap(-1), -1);
        due("heap(least)", house.heap(Integer.MIN_VALUE), -1);
        due("heap(most)", house.heap(Integer.MAX_VALUE), -1);
        String text = "main = A 1 2 3 4 5 6 7 8 9;";
        LazyHouse small = begun(text, 10);
        small.heap(2000);
        due("the heap of the latest start", small.step(100), 16);
        small.start();
        small.heap(10);
        due("the heap of this start", small.step(100), 1);
        small.heap(11);
        small.heap(5);
        small.start();
        due("a heap of 11, the wrong one aside", small.step(100), 1);
        LazyHouse kept = new LazyHouse();
        kept.heap(10);
        read(kept, text);
        kept.start();
        due("a heap told ahead of the program", kept.step(100), 16);
    }

    // Promise 6.

    private static void start() {
        LazyHouse house = new LazyHouse();
        due("start() without a program", house.start(), 0);
        due("no machine", house.step(1), -1);
        read(house, "main = T (1 + 2) x; x = P 5;");
        due("start()", house.start(), 1);
        due("frames at first", house.count(4), 1);
        due("their cells", house.count(3), 2);
        for (int what = 0; what < 7; what++) {
            if (what != 3 && what != 4) {
                due("at first count(" + what + ")", house.count(what), 0);
            }
        }
        house.step(7);
        String[] all = new String[2];
        for (int i = 0; i < 2; i++) {
            due("start() again", house.start(), 1);
            due("no steps", house.count(0), 0);
            due("no text", house.size(), 0);
            due("no frames but one", house.count(4), 1);
            due("nothing made", house.count(1), 0);
            due("nothing worked on", house.count(5), 0);
            due("nothing reached", house.count(2), 0);
            due("step", house.step(1000), 1);
            all[i] = shown(house) + house.count(0) + " " + house.count(1) + " " + house.count(5);
        }
        dueText("the second time", all[1], all[0]);
        // A feed doesn't touch the machine.
        house.start();
        house.feed(1, 2, 3, 4, 5);
        due("step behind feed", house.step(1000), 1);
    }

    // Promise 7.

    private static void stepAnswers() {
        LazyHouse house = begun("main = 1;", 10);
        due("step(-1)", house.step(-1), -1);
        due("step(20001)", house.step(20001), -1);
        due("step(least)", house.step(Integer.MIN_VALUE), -1);
        due("step(most)", house.step(Integer.MAX_VALUE), -1);
        due("no steps by these", house.count(0), 0);
        due("step(0)", house.step(0), 0);
        // ENTER main, EVALUATE 1, GIVE to the UPDATE, GIVE to the SHOW.
        due("step(3)", house.step(3), 0);
        due("step(1)", house.step(1), 1);
        due("steps", house.count(0), 4);
        due("step(0) when OVER", house.step(0), 1);
        due("step(5) when OVER", house.step(5), 1);
        due("no more steps", house.count(0), 4);
        due("step(-1) when OVER", house.step(-1), -1);
        LazyHouse error = begun("main = 1 2;", 10);
        due("step to an ERROR", error.step(20000), 12);
        due("and again", error.step(1), 12);
        due("step(0)", error.step(0), 12);
        due("step(20001)", error.step(20001), -1);
        due("the step is counted", error.count(0), 4);
        LazyHouse endless = begun("f x = f x; main = f 1;", 10);
        due("step(20000)", endless.step(20000), 0);
        due("all of them", endless.count(0), 20000);
        due("and more", endless.step(20000), 0);
        due("all of these", endless.count(0), 40000);
    }

    private static void stepErrors() {
        // ENTER main, EVALUATE x, ENTER x, EVALUATE x, ENTER x.
        dueEnd("main = x; x = x;", 10, 11, 5);
        dueEnd("main = main;", 10, 11, 3);
        dueEnd("main = let x = x in x;", 10, 11, 6);
        dueEnd("main = let x = y; y = x in x;", 10, 11, 8);
        dueEnd("main = 1 2;", 10, 12, 4);
        dueEnd("main = (A) 2;", 10, 12, 4);
        dueEnd("main = (A 1) 2;", 10, 12, 4);
        dueEnd("f = 1; main = f 1;", 10, 12, 7);
        dueEnd("main = case 1 of { 2 -> 3; A -> 4 };", 10, 13, 4);
        dueEnd("main = case A of { 2 -> 3; A x -> 4; B -> 5 };", 10, 13, 4);
        dueEnd("main = case A 1 of { A -> 3; A x y -> 4; B z -> 5 };", 10, 13, 4);
        dueEnd("main = case \\x -> x of { 0 -> 3; A -> 4 };", 10, 13, 4);
        dueEnd("main = A + 1;", 10, 14, 4);
        dueEnd("main = 1 + A;", 10, 14, 6);
        dueEnd("main = 0 / A;", 10, 14, 6);
        dueEnd("main = A / 0;", 10, 14, 4);
        dueEnd("main = A == A;", 10, 14, 4);
        dueEnd("main = (\\x -> x) < 1;", 10, 14, 4);
        dueEnd("main = 1 / 0;", 10, 15, 6);
        dueEnd("main = 1 % 0;", 10, 15, 6);
        dueEnd("main = A 1 2 3 4 5 6 7 8 9;", 10, 16, 2);
        dueEnd("main = A 1 2 3 4 5 6 7 8;", 10, 1, 20);
        LazyHouse house = begun("x = A 1; main = case x of { A y -> y + B };", 10);
        due("an ERROR behind a DONE x", house.step(1000), 14);
        due("what was made is counted", house.count(1), 3);
        due("what x reaches", house.count(2), 3);
        due("no frames", house.count(4), 0);
        due("no cells of frames", house.count(3), 0);
        due("worked on", house.count(5), 2);
    }

    private static void stepOrderOfErrors() {
        // A TEXT of 1500 is fine, one of 1501 is ERROR 8 and keeps the first 1500.
        String letters = "A" + many("b", 1497);
        dueShown("main = " + letters + " 1;", letters + " 1");
        LazyHouse longer = begun("main = " + letters + " 12;", 100);
        due("a TEXT of 1501", longer.step(100), 18);
        due("its bytes", longer.size(), 1500);
        dueText("a TEXT of 1501", shownAtLast("main = " + letters + " 12;", 100), letters + " 1");
        due("its frames", longer.count(4), 0);
        due("its steps", longer.count(0), 6);
        // A CALL of 102 cells with 11 cells of a DATUM: 7 ahead of 6, where both would be.
        due("no room in the heap", deepEnd(100, 10), 16);
        due("no room in both", deepEnd(970, 10), 17);
        due("no room for frames", deepEnd(970, 2000), 17);
        due("room in both", deepEnd(100, 2000), 1);
        dueFramesLimit();
    }

    private static int deepEnd(int depth, int heap) {
        String call = "h (P 1 2 3 4 5 6 7 8 9)" + many(" 1", 99);
        StringBuilder names = new StringBuilder("h");
        for (int i = 0; i < 100; i++) {
            names.append(" a").append(i);
        }
        String text = names + " = 1; f n = 1 + (case n of { 0 -> " + call + "; m -> f (n - 1) }); main = f " + depth + ";";
        return begun(text, heap).step(20000);
    }

    /** 3000 cells of frames are fine, 3001 are not. */
    private static void dueFramesLimit() {
        for (int words = 1; words <= 6; words++) {
            // A SHOW, the UPDATE of main, a CALL of so many words; then each round of g leaves a CALL of one word.
            int first = 2 + 3 + 2 + words;
            // In a round two CALLS come, of 3 cells each; the second one goes in it, but it may be the one too much.
            int rounds = (3000 - first - 3) / 3;
            LazyHouse house = begun("g x = (g x) 1; main = (g 1)" + many(" 1", words) + ";", 10);
            int steps = 6 + 5 * rounds + 1;
            due("frames at the edge of " + words, house.step(steps), 0);
            due("their cells", house.count(3), first + 3 * (rounds + 1));
            due("their number", house.count(4), 3 + rounds + 1);
            due("one step more", house.step(1), 17);
            due("its frames", house.count(3), 0);
        }
        for (int words = 1; words <= 6; words++) {
            dueEdge("case go x of { z -> T a b c d }", words);
            dueEdge("go x + (a + b + c + d)", words);
        }
        for (int words = 0; words <= 5; words++) {
            dueEdgeOfUpdates(words);
        }
        dueEdgeOfLast("1 + (1 + 2)", 995, 2, 3, 2992 + 3 + 5);
        dueEdgeOfLast("1 + (1 + d)", 994, 2, 3, 2989 + 3 + 6);
    }

    /** A chain of DELAYS is entered, each of which leaves an UPDATE and a LEFT of no words. */
    private static void dueEdgeOfUpdates(int words) {
        String text = "mk n y = case n of { 0 -> y; m -> mk (n - 1) (y + 0) }; main = (mk 800 1)" + many(" 1", words) + ";";
        int cells = words == 0 ? 2 + 3 : 2 + 3 + 2 + words;
        int updates = 0;
        while (cells + 3 <= 3000 && cells + 5 <= 3000) {
            cells += 5;
            updates++;
        }
        boolean entered = cells + 3 <= 3000;
        dueLastStep(text, entered ? cells + 3 : cells);
        LazyHouse house = begun(text, 20000);
        house.step(20000);
        due("what was worked on: main, 800 numbers, and these", house.count(5), 1 + 800 + updates + (entered ? 1 : 0));
    }

    /** The run ends with ERROR 7, and ahead of the step that does it the frames have so many cells. */
    private static void dueLastStep(String text, int cells) {
        LazyHouse house = begun(text, 20000);
        house.step(20000);
        due("no room for the frames of [" + text + "]", house.step(20000), 17);
        int steps = house.count(0);
        house.start();
        house.step(steps / 2);
        due("one step ahead of the end", house.step(steps - steps / 2 - 1), 0);
        due("cells one step ahead of the end", house.count(3), cells);
        due("the end", house.step(1), 17);
    }

    /** A list is walked, each element leaving a CALL of one word: no more comes in a round than stands at its end. */
    private static void dueEdgeOfLast(String last, int rounds, int enough, int tooMany, int cells) {
        String text = "up m = m + 1; mk n k = case n of { " + rounds + " -> g k; m -> case up n of { p -> mk p (C k) } }; d = 2; "
            + "g xs = case xs of { N -> " + last + "; C ys -> (g ys) 1 }; main = (mk 0 N)";
        LazyHouse house = begun(text + many(" 1", enough) + ";", 20000);
        house.step(20000);
        due("just enough", house.step(20000), 12);
        dueLastStep(text + many(" 1", tooMany) + ";", cells);
    }

    /** Each round leaves a CHOICE or a LEFT of 4 words, and a CALL of one word comes and goes in it. */
    private static void dueEdge(String body, int words) {
        LazyHouse house = begun("h a b c d = let go x = " + body + " in go 1; main = (h 1 2 3 4)" + many(" 1", words) + ";", 10);
        int cells = 2 + 3 + 2 + words;
        int steps = 11;
        while (cells + 6 <= 3000 && cells + 9 <= 3000) {
            cells += 6;
            steps += 5;
        }
        boolean second = cells + 6 <= 3000;
        steps += second ? 1 : 0;
        due("rounds of " + body, house.step(steps), 0);
        due("cells of the frames", house.count(3), second ? cells + 6 : cells);
        due("the cell too much", house.step(1), 17);
        due("and so many steps", house.count(0), steps + 1);
    }

    private static void stepMeaning() {
        dueShown("main = T (7 / 2) (0 - 7 / 2) ((0 - 7) / 2) (7 % 3) ((0 - 7) % 3) (7 % (0 - 3));", "T 3 -3 -3 1 -1 1");
        dueShown("main = 10 - 3 - 2;", "5");
        dueShown("main = 100 / 5 / 2 * 3 % 7;", "2");
        dueShown("main = 2 + 3 * 4 - 1;", "13");
        dueShown("main = T (1 + 1 == 2) (1 < 1) (1 < 2) (2 < 1) (3 == 4);", "T True False True False False");
        dueShown("main = (0 - 999999999 - 999999999 - 147483650) - 1;", "2147483647");
        dueShown("main = 999999999 + 999999999 + 147483649 + 1;", "-2147483648");
        dueShown("main = (0 - 999999999 - 999999999 - 147483650) / (0 - 1);", "-2147483648");
        dueShown("main = (0 - 999999999 - 999999999 - 147483650) % (0 - 1);", "0");
        dueShown("main = 65536 * 65536;", "0");
        dueShown("main = case 1 < 2 of { True -> Yes; False -> No };", "Yes");
        dueShown("main = case 2 < 1 of { True -> Yes; False -> No };", "No");
        dueShown("main = case A 1 2 of { A x -> 1; A x y -> T y x; z -> 3 };", "T 2 1");
        dueShown("main = case 5 of { 4 -> 1; 5 -> 2; x -> 3 };", "2");
        dueShown("main = case 5 of { x -> x + 1; 5 -> 2 };", "6");
        dueShown("main = case (\\x -> x) of { f -> f 3 };", "3");
        dueShown("f a b c = T a b c; main = f 1 2 3;", "T 1 2 3");
        dueShown("f a b c = T a b c; g = f 1; h = g 2; main = T (h 3) (g 4 5) (h 6);", "T (T 1 2 3) (T 1 4 5) (T 1 2 6)");
        dueShown("main = (\\a -> \\b c -> T a b c) 1 2 3;", "T 1 2 3");
        dueShown("id x = x; main = id id id id 7;", "7");
        dueShown("k a b = a; main = k 1 (1 / 0);", "1");
        dueShown("main = case P (1 / 0) 2 of { P a b -> b };", "2");
        dueShown("f = let g x y = x - y in g 10; main = f 3;", "7");
        dueShown("xs = C 1 xs; take n xs = case n of { 0 -> N; m -> case xs of { C y ys -> C y (take (n - 1) ys) } }; "
            + "main = take 3 xs;", "C 1 (C 1 (C 1 N))");
        dueShown("ev n = case n of { 0 -> True; m -> od (n - 1) }; od n = case n of { 0 -> False; m -> ev (n - 1) }; "
            + "main = T (ev 10) (od 10);", "T True False");
    }

    private static void stepMade() {
        // In a CALL: nothing of a SIMPLE atom, a FUNCTION of a \, a DATUM of simple fields, else a DELAY.
        dueCounts("k a = 1; main = k ((2));", 0, 1, 8);
        dueCounts("k a = 1; main = k (\\x -> x);", 2, 1, 8);
        dueCounts("k a = 1; main = k (P 1 (2) ((k)));", 5, 1, 8);
        dueCounts("k a = 1; main = k (P 1 (Q 2));", 2, 1, 8);
        dueCounts("k a = 1; main = k ((P) 1);", 2, 1, 8);
        dueCounts("k a = 1; main = k (1 + 2);", 2, 1, 8);
        dueCounts("k a = 1; f x y = k (x + y * x + main); main = f 1 2;", 4, 1, 12);
        // In a let: a DELAY even of a simple one.
        dueCounts("main = let x = 2 in 1;", 2, 1, 5);
        dueCounts("main = let x = A in 1;", 2, 1, 5);
        dueCounts("main = let x = y; y = x in 1;", 6, 1, 5);
        dueCounts("main = let x = (\\z -> x) in 1;", 3, 1, 5);
        dueCounts("main = let f z = z in 1;", 2, 1, 5);
        dueCounts("main = let f z = f z in 1;", 3, 1, 5);
        dueCounts("main = let x = (P x 1) in 1;", 4, 1, 5);
        dueCounts("main = let x = P (Q 1) in 1;", 2, 1, 5);
        // Fields: what is made in their places, and the DATUM.
        dueCounts("main = case P 1 (Q 2) (1 + 2) (\\x -> x) of { z -> 1 };", 6 + 3 + 2 + 2, 1, 7);
        // A PART: 3 and 1 for each word.
        dueCounts("f a b c = 1; main = f 1 2;", 5, 1, 7);
        dueCounts("f a b c = 1; main = f 1 2 3;", 0, 1, 8);
        dueCounts("f a b c = 1; main = (f 1) 2 3;", 4, 1, 10);
        dueCounts("f a = \\b -> a; main = f 1 2;", 3, 1, 11);
        // Once: x is worked on once, though it is wanted twice.
        dueCounts("main = let x = 1 + 2 in x + x;", 2, 2, 17);
    }

    private static void stepShows() {
        dueShown("main = 0;", "0");
        dueShown("main = 0 - 10;", "-10");
        dueShown("main = Abc;", "Abc");
        dueShown("main = \\x -> x;", "?");
        dueShown("f x = x; main = f;", "?");
        dueShown("f x y = x; main = T (f 1) f (\\x -> x) f;", "T ? ? ? ?");
        dueShown("main = A (B (C 1) D) (E 2 (F 3));", "A (B (C 1) D) (E 2 (F 3))");
        dueShown("x = 5; main = A x y; y = B x;", "A 5 (B 5)");
    }

    private static void stepRoom() {
        // What can't be reached takes no room: an endless loop in 10 cells, each round making a DATUM of 3.
        LazyHouse house = begun("f x = f (P 1); main = f 1;", 10);
        due("garbage takes no room", house.step(20000), 0);
        // The first round begins behind step 5; it makes the DATUM in the first of its 4 steps.
        due("cells made", house.count(1), 3 * 4999);
        due("cells reached", house.count(2), 3);
        roomToTheCell();
        roomOfPart();
        roomOfDone();
        roomOfBusy();
        roomOfFree();
    }

    /** The least heap in which the text ends with this answer. */
    private static int leastHeap(String text, int answer) {
        for (int heap = 10; heap <= 300; heap++) {
            if (begun(text, heap).step(20000) == answer) {
                return heap;
            }
        }
        return -1;
    }

    private static void roomToTheCell() {
        for (int n = 9; n < 30; n++) {
            due("least heap of a DATUM of " + n, leastHeap("main = A" + many(" 1", n) + ";", 1), 2 + n);
        }
        // All that a step makes it makes together: a DATUM of 4 cells, two of 5.
        due("least heap of three", leastHeap("main = A (B 1 2 3) (C 1 2 3);", 1), 14);
        due("least heap of a let", leastHeap("main = let a = B 1 2 3; b = C 1 2 3; c = \\x -> a b c in 1;", 1), 15);
        due("least heap of a CALL", leastHeap("k a b = 1; main = k (B 1 2 3) (C 1 2 3 4);", 1), 11);
    }

    /** Of a GIVE to a CALL the frame and the word count as reached: the new PART needs room beside the old one. */
    private static void roomOfPart() {
        due("PART beside PART", leastHeap("f a b c d e g h = 1; main = (f 1 2 3 4) 5;", 1), 3 + 4 + 3 + 5);
        due("PART beside an argument", leastHeap("f a b c d = 1; main = f (P 1 2 3 4) (Q 1 2 3 4);", 1), 12 + 5);
    }

    private static void roomOfDone() {
        // x is DONE by a DATUM of 8 cells, and takes none itself; then y's 4 cells come beside it.
        String text = "main = let x = h 1 in case x of { A a b c d e f -> case B x x of { y -> 1 } }; h n = A n n n n n n;";
        due("a DONE object takes no cells", leastHeap(text, 1), 8 + 4);
        LazyHouse house = begun("x = h 1; main = case x of { A a b -> a }; h n = A n n;", 10);
        house.step(20000);
        due("what a DONE DEFINITION reaches", house.count(2), 4);
    }

    /** A BUSY DELAY takes its 2 cells and no more, whatever it had. */
    private static void roomOfBusy() {
        String text = "f a b c d = let x = (case a + b + c + d of { s -> case A 1 2 3 4 5 6 7 8 of { z -> 1 } }) in x; main = f 1 2 3 4;";
        due("a BUSY object's cells", leastHeap(text, 1), 2 + 10);
        LazyHouse house = begun(text, 2000);
        house.step(6);
        due("a DELAY of 4 words", house.count(2), 6);
        house.step(2);
        due("BUSY", house.count(2), 2);
        house.step(20000);
        due("DONE", house.count(2), 0);
    }

    /** Of EVALUATE only what is FREE in its EXPRESSION is reached. */
    private static void roomOfFree() {
        LazyHouse house = begun("f a b = b; main = f (P 1 2 3) (Q 1);", 100);
        house.step(2);
        due("words of a CALL", house.count(2), 5 + 3);
        house.step(2);
        due("words of a CALL still", house.count(2), 5 + 3);
        house.step(1);
        due("FREE in f", house.count(2), 3);
        LazyHouse other = begun("main = case P 1 2 3 of { z -> case 1 of { y -> y } };", 100);
        other.step(3);
        due("the word of GIVE", other.count(2), 5);
        other.step(1);
        due("z is not FREE", other.count(2), 0);
        LazyHouse inner = begun("main = (\\a b -> \\c -> b) (P 1 2 3) (Q 1);", 100);
        inner.step(20000);
        due("a FUNCTION has what is FREE in it", inner.count(2), 3 + 3);
        dueShown("main = (\\a b -> \\c -> b) (P 1 2 3) (Q 1);", "?");
    }

    // Promise 8.

    private static void size() {
        LazyHouse house = begun("main = A 12 B;", 100);
        due("size() at first", house.size(), 0);
        house.step(1000);
        due("size()", house.size(), 6);
        read(house, "main = 1;");
        due("size() without a machine", house.size(), 0);
    }

    // Promise 9.

    private static void text() {
        LazyHouse house = begun("main = A 12;", 100);
        due("text(0) at first", house.text(0), -1);
        house.step(1000);
        due("text(0)", house.text(0), 'A');
        due("text(1)", house.text(1), ' ');
        due("text(3)", house.text(3), '2');
        due("text(4)", house.text(4), -1);
        due("text(-1)", house.text(-1), -1);
        due("text(least)", house.text(Integer.MIN_VALUE), -1);
        due("text(most)", house.text(Integer.MAX_VALUE), -1);
        house.start();
        due("text(0) of a new start", house.text(0), -1);
    }

    // Promise 10.

    private static void count() {
        LazyHouse house = new LazyHouse();
        due("count(-1)", house.count(-1), -1);
        due("count(7)", house.count(7), -1);
        due("count(least)", house.count(Integer.MIN_VALUE), -1);
        due("count(most)", house.count(Integer.MAX_VALUE), -1);
        put(house, "main = 1;  ");
        due("count(6)", house.count(6), 11);
        countOfFrames();
        countWithoutMachine();
        countOfDelays();
    }

    private static void countOfFrames() {
        LazyHouse house = begun("f a b = case a + b of { 3 -> T a b; z -> N }; main = f 1 2;", 100);
        dueFrames(house, 0, 1, 2);
        // ENTER main: an UPDATE. EVALUATE the CALL: two words. EVALUATE f, ENTER f. GIVE: it goes.
        dueFrames(house, 1, 2, 5);
        dueFrames(house, 1, 3, 9);
        dueFrames(house, 2, 3, 9);
        dueFrames(house, 1, 2, 5);
        // EVALUATE case: a CHOICE with a and b. EVALUATE +: a LEFT with b. EVALUATE a, ENTER, GIVE: a RIGHT.
        dueFrames(house, 1, 3, 9);
        dueFrames(house, 1, 4, 12);
        dueFrames(house, 2, 4, 12);
        dueFrames(house, 1, 4, 12);
        // EVALUATE b, ENTER. GIVE to the RIGHT: it goes. GIVE to the CHOICE: it goes.
        dueFrames(house, 2, 4, 12);
        dueFrames(house, 1, 3, 9);
        dueFrames(house, 1, 2, 5);
        // EVALUATE T a b. GIVE to the UPDATE: it goes. GIVE to the SHOW: a REST and a SHOW.
        dueFrames(house, 1, 2, 5);
        dueFrames(house, 1, 1, 2);
        dueFrames(house, 1, 2, 6);
        due("T and a blank", house.size(), 2);
        // ENTER 1, GIVE to the SHOW: again a REST and a SHOW. ENTER 2, GIVE to the SHOW: OVER.
        dueFrames(house, 2, 2, 6);
        dueFrames(house, 1, 2, 6);
        due("not OVER yet", house.step(0), 0);
        due("OVER", house.step(1), 1);
        dueFrames(house, 0, 0, 0);
        due("all steps", house.count(0), 21);
    }

    private static void countWithoutMachine() {
        LazyHouse house = begun("main = T (1 + 2) (P 1);", 100);
        house.step(20000);
        house.feed(0, 0, 0, 0, 0);
        house.program();
        for (int what = 0; what <= 6; what++) {
            due("without a machine count(" + what + ")", house.count(what), 0);
        }
        due("without a machine count(7)", house.count(7), -1);
        due("without a machine text(0)", house.text(0), -1);
    }

    private static void countOfDelays() {
        LazyHouse house = begun("x = 1; y = 2; f a = a; main = T x x (f 3) (4 + 5);", 100);
        house.step(20000);
        // main, x once, f 3, 4 + 5; y is not wanted.
        due("DELAYS that were worked on", house.count(5), 4);
        LazyHouse busy = begun("main = let x = 1 + x in x;", 100);
        due("x is BUSY", busy.step(20000), 11);
        due("main and x were worked on", busy.count(5), 2);
    }
}
