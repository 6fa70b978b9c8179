/** The ten promises, call by call: each boundary that they name, both sides of it, and what a refused call leaves as it was. */
public final class CallBoundaryTests extends Due {
    private static final int BLANKS = 0x20202020;
    private static final int[] FAR = {Integer.MIN_VALUE, Integer.MIN_VALUE + 1, -1000000, -2, -1};

    public static void main(String[] args) {
        newObject();
        feedUpToTheLimit();
        feedEachByte();
        feedRefused();
        endEachLength();
        endRefused();
        programAnswers();
        programRemoves();
        programsOfOtherLengths();
        programBehindEachEnd();
        heapLimits();
        heapFromTheNextStart();
        startAnswers();
        startAnew();
        stepLimits();
        stepInPieces();
        stepAnswers();
        stepRefused();
        sizeAndText();
        countOfEach();
        countWithoutMachine();
        countRefused();
        manyCalls();
        finish("CallBoundaryTests");
    }

    /** All that can be asked of an object, in one text. */
    private static String state(LazyHouse house) {
        StringBuilder all = new StringBuilder();
        for (int what = 0; what <= 6; what++) {
            all.append(house.count(what)).append(' ');
        }
        return all.append(house.step(0)).append(' ').append(house.size()).append(' ').append(house.text(0)).toString();
    }

    // Promise 1: "No program, no machine; an empty TAPE; HEAP 2000."

    private static void newObject() {
        dueText("a new object", state(new LazyHouse()), "0 0 0 0 0 0 0 -1 0 -1");
        due("no program", new LazyHouse().start(), 0);
        LazyHouse house = new LazyHouse();
        house.start();
        dueText("start() makes none", state(house), "0 0 0 0 0 0 0 -1 0 -1");
        due("no machine", new LazyHouse().step(1), -1);
        due("an empty tape", new LazyHouse().program(), -1);
        due("an empty tape", new LazyHouse().end(1), -1);
        // A heap of 2000: 2000 cells have room, 2001 have not.
        String fits = "go k = case k of { n -> go2 1 N }; go2 n k = go2 n (P k 1 2); main = go 1;";
        LazyHouse first = new LazyHouse();
        read(first, fits);
        first.start();
        due("a heap of 2000", first.step(20000), 16);
        due("all 2000 cells", first.count(1), 2000);
        // Objects know nothing of one another.
        LazyHouse one = begun("main = A 1;", 10);
        LazyHouse two = begun("main = B 22 3;", 20);
        one.step(4);
        two.step(6);
        one.feed(BLANKS, BLANKS, BLANKS, BLANKS, BLANKS);
        dueText("one", state(one), "4 3 3 6 2 1 20 0 2 65");
        dueText("two", state(two), "6 4 4 6 2 1 0 0 5 66");
    }

    // Promise 2: "how many it has"; "-1, and nothing is done: they would be more than 2000"

    private static void feedUpToTheLimit() {
        for (int length = 1970; length <= 2000; length++) {
            LazyHouse house = new LazyHouse();
            for (int i = 0; i < 100; i++) {
                due("feed " + i, house.feed(BLANKS, BLANKS, BLANKS, BLANKS, BLANKS), 20 * i + 20);
            }
            due("end(" + length + ")", house.end(length), length);
            boolean fits = length + 20 <= 2000;
            due("feed behind " + length, house.feed(BLANKS, BLANKS, BLANKS, BLANKS, BLANKS), fits ? length + 20 : -1);
            due("the tape then", house.count(6), fits ? length + 20 : length);
            due("a place behind it", house.program(), -1 - (fits ? length + 20 : length));
        }
    }

    /** Each byte of the five numbers comes to its place, the highest first. */
    private static void feedEachByte() {
        String digits = "main=K1234567890abc;";
        LazyHouse house = new LazyHouse();
        due("twenty bytes", house.feed(0x6d61696e, 0x3d4b3132, 0x33343536, 0x37383930, 0x6162633b), 20);
        due("a program", house.program(), 1);
        house.start();
        house.step(10);
        dueText("twenty bytes", shown(house), digits.substring(5, 19));
        for (int at = 0; at < 20; at++) {
            for (int b = 0; b < 256; b += b == 0 ? 127 : b == 127 ? 1 : 127) {
                int[] numbers = {BLANKS, BLANKS, BLANKS, BLANKS, BLANKS};
                int shift = 24 - at % 4 * 8;
                numbers[at / 4] = numbers[at / 4] & ~(255 << shift) | b << shift;
                LazyHouse other = new LazyHouse();
                other.feed(numbers[0], numbers[1], numbers[2], numbers[3], numbers[4]);
                due("byte " + b + " at " + at, other.program(), -1 - at);
            }
        }
    }

    private static void feedRefused() {
        LazyHouse house = new LazyHouse();
        put(house, many(" ", 1976) + "main = Abc;");
        String before = state(house);
        for (int i = 0; i < 3; i++) {
            due("feed behind 1987", house.feed(-1, -1, -1, -1, -1), -1);
            dueText("nothing is done", state(house), before);
        }
        due("the bytes are the same", house.program(), 1);
        house.start();
        house.step(10);
        dueText("the bytes are the same", shown(house), "Abc");
        // With a machine, nothing of that is touched.
        LazyHouse running = begun("main = A 1;", 10);
        running.step(4);
        put(running, many("x", 1990));
        String told = state(running);
        due("feed behind 1990", running.feed(1, 2, 3, 4, 5), -1);
        dueText("the machine is as it was", state(running), told);
        due("and goes on", running.step(100), 1);
        dueText("to its end", shown(running), "A 1");
    }

    // Promise 3: "The TAPE keeps its first n bytes: n."; "it has not so many, or n is below 0"

    private static void endEachLength() {
        String text = "main = K123456789; $";
        for (int n = 0; n <= 20; n++) {
            LazyHouse house = new LazyHouse();
            put(house, text);
            due("end(" + n + ")", house.end(n), n);
            due("the tape then", house.count(6), n);
            due("end(" + (n + 1) + ") then", house.end(n + 1), -1);
            due("end(" + n + ") again", house.end(n), n);
            due("its first bytes", house.program(), n == 18 || n == 19 ? 1 : n == 20 ? -20 : n == 5 ? -6 : -1 - n);
        }
        // What is fed behind end(n) stands behind the first n bytes.
        LazyHouse house = new LazyHouse();
        put(house, "main = A B C D;     ");
        house.end(9);
        due("fed behind 9", house.feed(0x313b2020, BLANKS, BLANKS, BLANKS, BLANKS), 29);
        due("a program", house.program(), 1);
        house.start();
        house.step(100);
        dueText("of both", shown(house), "A 1");
        LazyHouse full = new LazyHouse();
        put(full, many(" ", 2000));
        due("end(2001) of 2000", full.end(2001), -1);
        due("end(2000) of 2000", full.end(2000), 2000);
        due("end(1999) of 2000", full.end(1999), 1999);
        due("end(2000) of 1999", full.end(2000), -1);
        due("end(0)", full.end(0), 0);
        due("end(0) of none", full.end(0), 0);
        due("end(1) of none", full.end(1), -1);
    }

    private static void endRefused() {
        LazyHouse house = begun("main = A 1;", 10);
        house.step(4);
        put(house, "main = Kk;");
        String before = state(house);
        for (int n : FAR) {
            due("end(" + n + ")", house.end(n), -1);
            dueText("nothing is done", state(house), before);
        }
        int[] above = {11, 12, 20, 2000, 2001, Integer.MAX_VALUE};
        for (int n : above) {
            due("end(" + n + ") of 10", house.end(n), -1);
            dueText("nothing is done", state(house), before);
        }
        due("the bytes are the same", house.program(), 1);
        house.start();
        house.step(10);
        dueText("the bytes are the same", shown(house), "Kk");
    }

    // Promise 4: "Answers how many DEFINITIONS; or -1 less the place where it is WRONG, and there is no program."

    private static void programAnswers() {
        for (int n = 1; n <= 150; n++) {
            StringBuilder text = new StringBuilder();
            for (int i = 1; i < n; i++) {
                text.append("d" + i + "=" + i + ";");
            }
            dueProgram(text + "main=1;", n);
        }
        for (int place = 0; place <= 1990; place += 199) {
            dueWrong(many(" ", place) + "$", place);
        }
        dueWrong(many(" ", 2000), 2000);
        dueWrong(many(" ", 1999) + "$", 1999);
        dueWrong("", 0);
    }

    private static void programRemoves() {
        LazyHouse house = begun("main = A 1;", 10);
        house.step(100);
        // Without a byte on the tape: WRONG at 0, no machine and no program.
        due("program() of nothing", house.program(), -1);
        dueText("no machine", state(house), "0 0 0 0 0 0 0 -1 0 -1");
        due("no program", house.start(), 0);
        // A program twice: the tape is empty the second time.
        put(house, "main = A 1;");
        due("program()", house.program(), 1);
        due("the tape is empty", house.count(6), 0);
        dueText("no machine yet", state(house), "0 0 0 0 0 0 0 -1 0 -1");
        due("program() again", house.program(), -1);
        due("the program is gone", house.start(), 0);
        // A new one in the place of the old one.
        due("another program", read(house, "f = 1; main = B f;"), 2);
        due("it starts", house.start(), 1);
        house.step(2);
        due("one more", read(house, "main = C;"), 1);
        dueText("the machine is gone", state(house), "0 0 0 0 0 0 0 -1 0 -1");
        due("it starts", house.start(), 1);
        house.step(100);
        dueText("the latest program", shown(house), "C");
        due("a WRONG one", read(house, "main = C C C x;"), -14);
        due("no program", house.start(), 0);
        due("no machine", house.step(1), -1);
        due("no text", house.size(), 0);
        due("the tape is empty", house.count(6), 0);
        // f is not known any more.
        due("names of an old program", read(house, "main = f;"), -8);
        due("names of a WRONG program", read(house, "g = 1; main = f;"), -15);
        due("a DEFINITION as often as one likes", read(house, "g = 1; main = 2;"), 2);
    }

    /** What every program knows, True and False and main, is the same in each of several on one object. */
    private static void programsOfOtherLengths() {
        String text = "main = T (1 < 2) (2 < 1) (case 1 == 1 of { True -> Y; z -> z }) (case 1 == 2 of { False -> Y; z -> z }) True False;";
        String[] others = {"main = 1;", "main = Abc Def Ghi (Jkl 1 2 3) Mno;", "f x y = \\z -> x y z; main = f 1;", "$", "", many("abc = 1; ", 9)};
        LazyHouse house = new LazyHouse();
        for (String other : others) {
            read(house, other);
            due("a program again", read(house, text), 1);
            due("it starts", house.start(), 1);
            due("to its end", house.step(1000), 1);
            dueText("behind [" + other + "]", shown(house), "T True False Y Y True False");
        }
    }

    /** However a machine ended, the next program on the object begins from the beginning. */
    private static void programBehindEachEnd() {
        String[] texts = {
            "main = 1;", "main = A 1 (B 2);", "main = main;", "main = 1 2;", "main = case 1 of { 2 -> 3 };", "main = K + 1;", "main = 1 / 0;",
            "main = K 1 2 3 4 5 6 7 8 9;", "f n = 1 + f n; main = f 1;", "main = K" + many("k", 1500) + ";", "f x = f (P x); main = f 1;",
        };
        for (String text : texts) {
            LazyHouse house = begun(text, 10);
            house.step(20000);
            due("another program behind [" + text + "]", read(house, "d = 1 + 2; main = P d (Q d);"), 2);
            due("it starts", house.start(), 1);
            dueText("all is new", state(house), "0 0 0 2 1 0 0 0 0 -1");
            due("it ends well", house.step(20000), 1);
            dueText("its text", shown(house), "P 3 (Q 3)");
            dueText("its end", state(house), "16 7 7 0 0 2 0 1 9 80");
        }
    }

    // Promise 5: "-1: it is not 10 .. 20000."

    private static void heapLimits() {
        LazyHouse house = new LazyHouse();
        int[] fine = {10, 11, 12, 100, 1999, 2000, 2001, 19998, 19999, 20000};
        int[] refused = {9, 8, 1, 0, 20001, 20002, 30000, 65546, Integer.MAX_VALUE};
        for (int n : fine) {
            due("heap(" + n + ")", house.heap(n), 1);
        }
        for (int n : refused) {
            due("heap(" + n + ")", house.heap(n), -1);
        }
        for (int n : FAR) {
            due("heap(" + n + ")", house.heap(n), -1);
        }
        // A refused one leaves the size as it was.
        read(house, "main = K 1 2 3 4 5 6 7 8 9;");
        house.heap(11);
        for (int n : refused) {
            house.heap(n);
            house.start();
            due("in 11 cells behind heap(" + n + ")", house.step(1000), 1);
        }
        house.heap(10);
        for (int n : refused) {
            house.heap(n);
            house.start();
            due("in 10 cells behind heap(" + n + ")", house.step(1000), 16);
        }
    }

    // "The HEAP's size from the next start() on."

    private static void heapFromTheNextStart() {
        LazyHouse house = begun("main = K 1 2 3 4 5 6 7 8 9;", 10);
        due("a larger heap", house.heap(11), 1);
        due("not for this machine", house.step(1000), 16);
        house.start();
        due("a smaller heap", house.heap(10), 1);
        due("not for this machine", house.step(1000), 1);
        house.start();
        due("but for the next", house.step(1000), 16);
        // It stays for all starts and programs behind it.
        house.heap(11);
        for (int i = 0; i < 3; i++) {
            house.start();
            due("in 11 cells", house.step(1000), 1);
        }
        read(house, "main = K 1 2 3 4 5 6 7 8 9;");
        house.start();
        due("of another program", house.step(1000), 1);
        read(house, "main = K 1 2 3 4 5 6 7 8 9 0;");
        house.start();
        due("that wants a cell more", house.step(1000), 16);
        read(house, "$");
        read(house, "main = K 1 2 3 4 5 6 7 8 9;");
        house.start();
        due("behind a WRONG one", house.step(1000), 1);
        // With no program it is kept as well.
        LazyHouse early = new LazyHouse();
        early.heap(10);
        early.start();
        read(early, "main = K 1 2 3 4 5 6 7 8 9;");
        early.start();
        due("told ahead of all", early.step(1000), 16);
        // The machine is not touched by it.
        LazyHouse running = begun("main = A 1;", 10);
        running.step(4);
        String before = state(running);
        running.heap(20000);
        running.heap(9);
        dueText("a running machine", state(running), before);
    }

    // Promise 6: "Answers 1; 0 if there is no program."

    private static void startAnswers() {
        LazyHouse house = new LazyHouse();
        due("no program", house.start(), 0);
        put(house, "main = 1;");
        due("a tape is no program", house.start(), 0);
        due("nothing was begun", house.step(0), -1);
        house.program();
        for (int i = 0; i < 5; i++) {
            due("start()", house.start(), 1);
        }
        read(house, "main = ;");
        due("a WRONG program", house.start(), 0);
        due("and again", house.start(), 0);
    }

    private static void startAnew() {
        LazyHouse house = begun("d = A 1; main = case d of { A x -> P x d (1 + 2) };", 20);
        String fresh = "0 0 0 2 1 0 0 0 0 -1";
        dueText("a new machine", state(house), fresh);
        LazyHouse other = begun("d = A 1; main = case d of { A x -> P x d (1 + 2) };", 20);
        other.step(20000);
        String end = state(other);
        int steps = other.count(0);
        for (int n = 0; n <= steps; n++) {
            LazyHouse begun = begun("d = A 1; main = case d of { A x -> P x d (1 + 2) };", 20);
            begun.step(n);
            due("start() behind " + n, begun.start(), 1);
            dueText("all is new behind " + n, state(begun), fresh);
            due("to the end", begun.step(20000), 1);
            dueText("the same end", state(begun), end);
            dueText("the same text", shown(begun), "P 1 (A 1) 3");
        }
        // Behind an ERROR, too.
        LazyHouse error = begun("d = A 1; main = case d of { A x -> x 1 };", 20);
        for (int i = 0; i < 3; i++) {
            due("an ERROR", error.step(20000), 12);
            due("start() behind it", error.start(), 1);
            dueText("all is new", state(error), fresh);
        }
    }

    // Promise 7: "n steps, or so many as there are."; "-1: there is no machine, or n is not 0 .. 20000."

    private static void stepLimits() {
        LazyHouse house = begun("f x = f x; main = f 1;", 10);
        int[] fine = {0, 1, 2, 19998, 19999, 20000};
        int done = 0;
        for (int n : fine) {
            due("step(" + n + ")", house.step(n), 0);
            done += n;
            due("all of them", house.count(0), done);
        }
        int[] refused = {20001, 20002, 40000, 65536, Integer.MAX_VALUE};
        for (int n : refused) {
            due("step(" + n + ")", house.step(n), -1);
            due("none of them", house.count(0), done);
        }
        for (int n : FAR) {
            due("step(" + n + ")", house.step(n), -1);
            due("none of them", house.count(0), done);
        }
        LazyHouse none = new LazyHouse();
        for (int n : fine) {
            due("no machine: step(" + n + ")", none.step(n), -1);
        }
        read(none, "main = 1;");
        for (int n : fine) {
            due("a program alone: step(" + n + ")", none.step(n), -1);
        }
    }

    /** However the steps are cut into calls, they are the same. */
    private static void stepInPieces() {
        String text = "take n xs = case n of { 0 -> N; m -> case xs of { C y ys -> C y (take (n - 1) ys) } }; "
            + "from n = C n (from (n + 1)); main = take 3 (from 5);";
        LazyHouse whole = begun(text, 50);
        due("the whole", whole.step(20000), 1);
        int steps = whole.count(0);
        for (int piece = 1; piece <= 12; piece++) {
            LazyHouse house = begun(text, 50);
            int done = 0;
            while (done + piece < steps) {
                due("a piece of " + piece, house.step(piece), 0);
                done += piece;
                if (piece > 2) {
                    due("steps done", house.count(0), done);
                }
            }
            due("the last of " + piece, house.step(piece), 1);
            due("no more than there are", house.count(0), steps);
            dueText("the same end", state(house), state(whole));
            dueText("the same text", shown(house), shown(whole));
        }
        // One step less than there are, as many, one more.
        for (int n = steps - 1; n <= steps + 1; n++) {
            LazyHouse house = begun(text, 50);
            due("step(" + n + ") of " + steps, house.step(n), n < steps ? 0 : 1);
            due("steps done", house.count(0), Math.min(n, steps));
        }
    }

    // "Answers 0 there are more, 1 it is OVER, 10 and its number with an ERROR"

    private static void stepAnswers() {
        String[] texts = {
            "main = main;", "main = 1 2;", "main = case 1 of { 2 -> 3 };", "main = K + 1;", "main = 1 / 0;",
            "main = K 1 2 3 4 5 6 7 8 9;", "f n = 1 + f n; main = f 1;", "main = K" + many("k", 1500) + ";",
        };
        for (int i = 0; i < texts.length; i++) {
            LazyHouse house = begun(texts[i], 10);
            due("at first", house.step(0), 0);
            due("ERROR " + (i + 1), house.step(20000), 11 + i);
            int steps = house.count(0);
            int[] more = {0, 1, 2, 20000};
            for (int n : more) {
                due("step(" + n + ") behind ERROR " + (i + 1), house.step(n), 11 + i);
                due("no step more", house.count(0), steps);
            }
            due("step(-1) behind ERROR " + (i + 1), house.step(-1), -1);
            due("step(20001) behind ERROR " + (i + 1), house.step(20001), -1);
            house.start();
            due("one step less", house.step(steps - 1), 0);
            due("that step", house.step(1), 11 + i);
        }
        LazyHouse over = begun("main = 1;", 10);
        due("three steps", over.step(3), 0);
        due("OVER", over.step(1), 1);
        int[] more = {0, 1, 20000};
        for (int n : more) {
            due("step(" + n + ") when it is OVER", over.step(n), 1);
            due("no step more", over.count(0), 4);
        }
        due("step(-1) when it is OVER", over.step(-1), -1);
        due("step(20001) when it is OVER", over.step(20001), -1);
    }

    private static void stepRefused() {
        LazyHouse house = begun("main = A (1 + 2) (B 1);", 20);
        for (int i = 0; i < 12; i++) {
            String before = state(house);
            house.step(-1);
            house.step(20001);
            house.text(-1);
            house.text(house.size());
            house.count(7);
            house.count(-1);
            dueText("what is refused changes nothing", state(house), before);
            house.step(1);
        }
    }

    // Promises 8 and 9: "How many bytes the TEXT has."; "Byte i of the TEXT; -1 if there is none."

    private static void sizeAndText() {
        String text = "main = Ab 12 (C (0 - 3));";
        String whole = "Ab 12 (C -3)";
        for (int steps = 0; steps < 30; steps++) {
            LazyHouse house = begun(text, 50);
            house.step(steps);
            int size = house.size();
            dueText("so far", shown(house), whole.substring(0, size));
            due("text(size())", house.text(size), -1);
            due("text(size() + 1)", house.text(size + 1), -1);
            due("text(-1)", house.text(-1), -1);
        }
        LazyHouse house = begun(text, 50);
        due("the end", house.step(20000), 1);
        due("size()", house.size(), whole.length());
        for (int i = 0; i < whole.length(); i++) {
            due("text(" + i + ")", house.text(i), whole.charAt(i));
        }
        int[] none = {12, 13, 1499, 1500, 1501, 2000, Integer.MAX_VALUE};
        for (int i : none) {
            due("text(" + i + ")", house.text(i), -1);
        }
        for (int i : FAR) {
            due("text(" + i + ")", house.text(i), -1);
        }
        house.start();
        due("size() of a new machine", house.size(), 0);
        due("text(0) of a new machine", house.text(0), -1);
        house.step(20000);
        house.program();
        due("size() without a machine", house.size(), 0);
        due("text(0) without a machine", house.text(0), -1);
        // A shorter TEXT behind a longer one has no byte of that.
        read(house, "main = Xy;");
        house.start();
        house.step(20000);
        due("size() of Xy", house.size(), 2);
        due("text(1) of Xy", house.text(1), 'y');
        due("text(2) of Xy", house.text(2), -1);
    }

    // Promise 10.

    private static void countOfEach() {
        // ENTER main, EVALUATE the CALL with a DATUM of 4, a DELAY of 2, EVALUATE f, ENTER f, GIVE, EVALUATE case, b, ENTER b.
        LazyHouse house = begun("f a b = case b of { 3 -> a; z -> z }; main = f (P 1 2) (1 + 2);", 50);
        put(house, "abc");
        String[] rows = {
            "0 0 0 2 1 0 3 0 0 -1", "1 0 0 5 2 1 3 0 0 -1", "2 6 6 9 3 1 3 0 0 -1", "3 6 6 9 3 1 3 0 0 -1", "4 6 6 9 3 1 3 0 0 -1",
            "5 6 6 5 2 1 3 0 0 -1", "6 6 6 8 3 1 3 0 0 -1", "7 6 6 8 3 1 3 0 0 -1", "8 6 6 11 4 2 3 0 0 -1",
            // The sign, 1, the LEFT, 2, the RIGHT, the UPDATE, the CHOICE.
            "9 6 6 13 5 2 3 0 0 -1", "10 6 6 13 5 2 3 0 0 -1", "11 6 6 14 5 2 3 0 0 -1", "12 6 6 14 5 2 3 0 0 -1",
            "13 6 6 11 4 2 3 0 0 -1", "14 6 4 8 3 2 3 0 0 -1", "15 6 4 5 2 2 3 0 0 -1",
        };
        for (String row : rows) {
            dueText("all counts", state(house), row);
            house.step(1);
        }
        // DELAYS that were worked on: each once, however often it is wanted; not those that are not wanted.
        dueWorked("main = 1;", 1);
        dueWorked("x = 1; main = 1;", 1);
        dueWorked("x = 1; main = x + x + x;", 2);
        dueWorked("main = let x = 1 in 2;", 1);
        dueWorked("main = let x = 1 in x + x;", 2);
        dueWorked("main = let x = P 1; y = \\z -> 1 in case x of { P u -> y x };", 1);
        dueWorked("k a b = a; main = k (1 + 1) (1 + 2);", 2);
        dueWorked("f a = a + a; main = f (f (f 1));", 3);
    }

    private static void dueWorked(String text, int worked) {
        LazyHouse house = begun(text, 100);
        due("step of [" + text + "]", house.step(20000), 1);
        due("count(5) of [" + text + "]", house.count(5), worked);
    }

    // "(0 to 5 are 0, and the TEXT is empty, if there is no machine.)"

    private static void countWithoutMachine() {
        String[] texts = {"main = A (1 + 2) (B 1);", "main = A 1 + 2;", "f n = f n; main = f 1;", "main = K" + many("k", 1500) + ";"};
        String[] next = {"main = 1;", "main = ;", ""};
        for (String text : texts) {
            for (String other : next) {
                for (int steps = 0; steps < 12; steps++) {
                    LazyHouse house = begun(text, 50);
                    house.step(steps);
                    read(house, other);
                    dueText("no machine behind [" + other + "]", state(house), "0 0 0 0 0 0 0 -1 0 -1");
                    put(house, "123");
                    dueText("a tape alone", state(house), "0 0 0 0 0 0 3 -1 0 -1");
                }
            }
        }
    }

    private static void countRefused() {
        LazyHouse[] houses = {new LazyHouse(), begun("main = 1;", 10), begun("main = 1 2;", 10)};
        houses[1].step(100);
        houses[2].step(100);
        int[] refused = {7, 8, 9, 100, 256, Integer.MAX_VALUE};
        for (LazyHouse house : houses) {
            for (int what : refused) {
                due("count(" + what + ")", house.count(what), -1);
            }
            for (int what : FAR) {
                due("count(" + what + ")", house.count(what), -1);
            }
            due("count(6)", house.count(6), 0);
        }
    }

    /** 512 calls with the longest programs and the largest heap. */
    private static void manyCalls() {
        LazyHouse house = new LazyHouse();
        house.heap(20000);
        int calls = 1;
        String text = "go k = go (P k" + many(" 1", 940) + "); main = go 1;";
        for (int i = 0; i < 4; i++) {
            read(house, text);
            house.start();
            due("a long round", house.step(20000), 16);
            due("its cells", house.count(1), 20000 / 943 * 943);
            calls += text.length() / 20 + 5;
        }
        due("calls", calls <= 512 ? 1 : 0, 1);
    }
}
