/**
 * What the tests are written with. An answer that is not the one that is due is printed and counted.
 * No object is asked more than 512 times, because what later calls answer is free.
 */
abstract class Due {
    private static final int PIECE = 300;
    private static int wrong = 0;

    static void due(String what, long got, long want) {
        if (got != want) {
            wrong++;
            System.out.println(what + " answered " + got + ", due is " + want);
        }
    }

    static void dueText(String what, String got, String want) {
        if (!got.equals(want)) {
            wrong++;
            System.out.println(what + " showed " + got + ", due is " + want);
        }
    }

    static void finish(String name) {
        if (wrong == 0) {
            System.out.println(name + ": all answers are as due");
        }
        System.exit(wrong == 0 ? 0 : 1);
    }

    static String many(String piece, int n) {
        return piece.repeat(n);
    }

    // Texts.

    private static int four(byte[] bytes, int at) {
        int all = 0;
        for (int i = at; i < at + 4; i++) {
            all = all << 8 | (i < bytes.length ? bytes[i] & 255 : 0);
        }
        return all;
    }

    /** Adds the text to the tape. */
    static void put(LazyHouse house, String text) {
        byte[] bytes = new byte[text.length()];
        for (int i = 0; i < bytes.length; i++) {
            bytes[i] = (byte) text.charAt(i);
        }
        int kept = house.count(6);
        for (int at = 0; at < bytes.length; at += 20) {
            house.feed(four(bytes, at), four(bytes, at + 4), four(bytes, at + 8), four(bytes, at + 12), four(bytes, at + 16));
        }
        house.end(kept + bytes.length);
    }

    static int read(LazyHouse house, String text) {
        put(house, text);
        return house.program();
    }

    /** What program() answers to this text on a new object. */
    static void dueProgram(String text, int want) {
        due("program() of [" + text + "]", read(new LazyHouse(), text), want);
    }

    static void dueWrong(String text, int place) {
        dueProgram(text, -1 - place);
    }

    /** WRONG at the place where a mark ~ stands in the text, which is not of it. */
    static void dueWrongAtMark(String marked) {
        int place = marked.indexOf('~');
        dueWrong(marked.substring(0, place) + marked.substring(place + 1), place);
    }

    // Machines.

    static LazyHouse begun(String text, int heap) {
        LazyHouse house = new LazyHouse();
        due("program() of [" + text + "]", read(house, text) > 0 ? 1 : 0, 1);
        due("heap(" + heap + ")", house.heap(heap), 1);
        due("start()", house.start(), 1);
        return house;
    }

    static String shown(LazyHouse house) {
        return piece(house, 0, house.size());
    }

    private static String piece(LazyHouse house, int from, int to) {
        StringBuilder all = new StringBuilder();
        for (int i = from; i < to; i++) {
            all.append((char) house.text(i));
        }
        return all.toString();
    }

    /** The TEXT when the machine has stopped, however long: each piece of it is read from a new object. */
    static String shownAtLast(String text, int heap) {
        StringBuilder all = new StringBuilder();
        int size = 1;
        for (int from = 0; from < size; from += PIECE) {
            LazyHouse house = begun(text, heap);
            house.step(20000);
            size = house.size();
            all.append(piece(house, from, Math.min(size, from + PIECE)));
        }
        return all.toString();
    }

    /** Runs the text to its end in a heap of 2000; it must show this. */
    static void dueShown(String text, String want) {
        LazyHouse house = begun(text, 2000);
        due("step(20000) of [" + text + "]", house.step(20000), 1);
        due("size() of [" + text + "]", house.size(), want.length());
        dueText("[" + text + "]", want.length() <= PIECE ? shown(house) : shownAtLast(text, 2000), want);
    }

    static void dueEnd(String text, int heap, int answer, int steps) {
        LazyHouse house = begun(text, heap);
        due("step(20000) of [" + text + "] in " + heap, house.step(20000), answer);
        due("count(0) of [" + text + "] in " + heap, house.count(0), steps);
    }

    /** Runs the text to its end: cells made, DELAYS worked on, steps. */
    static void dueCounts(String text, int made, int worked, int steps) {
        LazyHouse house = begun(text, 20000);
        due("step(20000) of [" + text + "]", house.step(20000), 1);
        due("count(1) of [" + text + "]", house.count(1), made);
        due("count(5) of [" + text + "]", house.count(5), worked);
        due("count(0) of [" + text + "]", house.count(0), steps);
    }

    static void dueFrames(LazyHouse house, int steps, int frames, int cells) {
        house.step(steps);
        due("count(4) behind " + house.count(0), house.count(4), frames);
        due("count(3) behind " + house.count(0), house.count(3), cells);
    }
}
