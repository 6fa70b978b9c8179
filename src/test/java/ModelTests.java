import java.util.ArrayList;
import java.util.HashMap;
import java.util.HashSet;
import java.util.IdentityHashMap;
import java.util.LinkedHashSet;
import java.util.List;
import java.util.Map;
import java.util.Random;
import java.util.Set;

/**
 * Compares LazyHouse with a second machine, written from the document in its plainest form, on random programs.
 * Arguments, if any: a seed and how many programs.
 */
public final class ModelTests {
    private static final int LAST_BYTES = 40;
    private static int wrong = 0;

    public static void main(String[] args) {
        long seed = args.length > 0 ? Long.parseLong(args[0]) : 20261116;
        int many = args.length > 1 ? Integer.parseInt(args[1]) : 1500;
        Maker maker = new Maker(new Random(seed));
        int[] answers = new int[32];
        for (int i = 0; i < many && wrong < 5; i++) {
            String text = maker.text();
            compare(text, maker.random, answers);
        }
        StringBuilder seen = new StringBuilder();
        for (int i = 0; i < answers.length; i++) {
            if (answers[i] > 0) {
                seen.append(' ').append(i == 31 ? "WRONG" : String.valueOf(i)).append(':').append(answers[i]);
            }
        }
        System.out.println("ModelTests: ends seen" + seen);
        System.exit(wrong == 0 ? 0 : 1);
    }

    // What both are asked.

    private static void compare(String text, Random random, int[] answers) {
        LazyHouse house = new LazyHouse();
        put(house, text);
        int got = house.program();
        Model model = new Model();
        int want = model.read(text);
        if (!due(text, "program()", got, want) || want < 0) {
            answers[31] += want < 0 ? 1 : 0;
            return;
        }
        int[] heaps = {random.nextInt(20) + 10, random.nextInt(100) + 10, random.nextInt(400) + 10, 2000};
        for (int heap : heaps) {
            // One object for each heap: what it answers behind 512 calls is free.
            house = new LazyHouse();
            put(house, text);
            house.program();
            house.heap(heap);
            house.start();
            model.start(heap);
            int chunk = random.nextInt(4) == 0 ? random.nextInt(5) : random.nextInt(1500);
            int answer = 0;
            for (int i = 0; i < 8 && answer == 0; i++) {
                int steps = i < 6 ? chunk : i == 7 && text.contains("deeper") ? 20000 : 1000;
                answer = model.step(steps);
                if (!same(text, heap, house, model, house.step(steps), answer)) {
                    return;
                }
            }
            answers[answer]++;
        }
    }

    private static boolean same(String text, int heap, LazyHouse house, Model model, int got, int want) {
        StringBuilder shown = new StringBuilder();
        int size = house.size();
        int from = Math.max(0, size - LAST_BYTES);
        for (int i = from; i < size; i++) {
            shown.append((char) house.text(i));
        }
        String at = " behind step " + model.steps + ", heap " + heap;
        boolean fine = due(text, "step" + at, got, want);
        fine &= due(text, "count(0)" + at, house.count(0), model.steps);
        fine &= due(text, "count(1)" + at, house.count(1), model.made);
        fine &= due(text, "count(2)" + at, house.count(2), model.reached());
        fine &= due(text, "count(3)" + at, house.count(3), model.frameCells(model.frames));
        fine &= due(text, "count(4)" + at, house.count(4), model.frames.size());
        fine &= due(text, "count(5)" + at, house.count(5), model.worked);
        fine &= due(text, "size()" + at, size, model.shown.length());
        if (fine && !shown.toString().equals(model.shown.substring(from))) {
            fine = due(text, "text [" + shown + "] for [" + model.shown + "]" + at, 0, 1);
        }
        return fine;
    }

    private static boolean due(String text, String call, int got, int want) {
        if (got != want) {
            wrong++;
            System.out.println("[" + text + "]: " + call + " answered " + got + ", due is " + want);
        }
        return got == want;
    }

    private static void put(LazyHouse house, String text) {
        for (int at = 0; at < text.length(); at += 20) {
            int[] fours = new int[5];
            for (int i = 0; i < 20; i++) {
                int b = at + i < text.length() ? text.charAt(at + i) & 255 : 0;
                fours[i / 4] = fours[i / 4] << 8 | b;
            }
            house.feed(fours[0], fours[1], fours[2], fours[3], fours[4]);
        }
        house.end(text.length());
    }

    // The text as a tree.

    private static final class Wrong extends RuntimeException {
        private static final long serialVersionUID = 1;
        final int place;

        Wrong(int place) {
            this.place = place;
        }
    }

    private static final class Tree {
        final String op;
        String name = "";
        int number;
        int place;
        boolean local;
        List<String> names = new ArrayList<>();
        List<Tree> parts = new ArrayList<>();

        Tree(String op) {
            this.op = op;
        }

        Tree(String op, Tree... parts) {
            this.op = op;
            this.parts.addAll(List.of(parts));
        }

        boolean simple() {
            return op.equals("name") || op.equals("number") || op.equals("maker");
        }

        /** Names that are used in it and bound neither in it nor by a DEFINITION. */
        Set<String> free() {
            Set<String> all = new LinkedHashSet<>();
            if (op.equals("name")) {
                if (local) {
                    all.add(name);
                }
                return all;
            }
            for (Tree part : parts) {
                all.addAll(part.free());
            }
            all.removeAll(names);
            return all;
        }

        /** Marks the names that something around them binds; those that nothing binds come into a list. */
        void bind(Set<String> around, Set<String> defined, List<Integer> unbound) {
            if (op.equals("name")) {
                local = around.contains(name);
                if (!local && !defined.contains(name)) {
                    unbound.add(place);
                }
                return;
            }
            Set<String> inside = new HashSet<>(around);
            inside.addAll(names);
            for (Tree part : parts) {
                part.bind(inside, defined, unbound);
            }
        }
    }

    private static final class Grammar {
        final String text;
        int at = 0;
        int place;
        String kind;
        String word;
        final Map<String, Tree> definitions = new HashMap<>();

        Grammar(String text) {
            this.text = text;
            next();
        }

        void next() {
            while (at < text.length() && (text.charAt(at) == ' ' || text.charAt(at) == '\n')) {
                at++;
            }
            place = at;
            if (at == text.length()) {
                kind = "end";
                word = "";
                return;
            }
            String rest = text.substring(at);
            if (rest.matches("(?s)[a-zA-Z].*")) {
                word = rest.replaceFirst("(?s)[^a-zA-Z0-9].*", "");
                boolean capital = word.charAt(0) < 'a';
                kind = List.of("let", "in", "case", "of").contains(word) ? word : capital ? "maker" : "name";
            } else if (rest.matches("(?s)[0-9].*")) {
                word = rest.replaceFirst("(?s)[^0-9].*", "");
                kind = word.length() > 9 ? "bad" : "number";
            } else {
                kind = "bad";
                word = "";
                for (String sign : List.of("->", "==", ";", "=", "\\", "{", "}", "(", ")", "+", "-", "*", "/", "%", "<")) {
                    if (kind.equals("bad") && rest.startsWith(sign)) {
                        kind = sign;
                        word = sign;
                    }
                }
            }
            at += word.length();
        }

        String take(String wanted) {
            if (!kind.equals(wanted)) {
                throw new Wrong(place);
            }
            String taken = word;
            next();
            return taken;
        }

        void takeName(List<String> names) {
            if (kind.equals("name") && names.contains(word)) {
                throw new Wrong(place);
            }
            names.add(take("name"));
        }

        List<String> takeNames() {
            List<String> names = new ArrayList<>();
            while (kind.equals("name")) {
                takeName(names);
            }
            return names;
        }

        void program() {
            List<String> names = new ArrayList<>();
            do {
                takeName(names);
                Tree definition = new Tree("definition");
                definition.names = takeNames();
                take("=");
                definition.parts.add(expression(0));
                take(";");
                definitions.put(names.get(names.size() - 1), definition);
            } while (!kind.equals("end"));
            List<Integer> unbound = new ArrayList<>();
            for (String name : names) {
                definitions.get(name).bind(Set.of(), definitions.keySet(), unbound);
            }
            if (!unbound.isEmpty()) {
                throw new Wrong(unbound.stream().min(Integer::compare).get());
            }
            if (!definitions.containsKey("main") || !definitions.get("main").names.isEmpty()) {
                throw new Wrong(text.length());
            }
        }

        /** open: how many of ( let \ case are open around it. */
        Tree expression(int open) {
            boolean opens = List.of("let", "\\", "case").contains(kind);
            if (opens && open == 60) {
                throw new Wrong(place);
            }
            if (kind.equals("let")) {
                return let(open + 1);
            }
            if (kind.equals("\\")) {
                next();
                Tree lambda = new Tree("lambda");
                takeName(lambda.names);
                while (kind.equals("name")) {
                    takeName(lambda.names);
                }
                take("->");
                lambda.parts.add(expression(open + 1));
                return lambda;
            }
            if (kind.equals("case")) {
                return choice(open + 1);
            }
            Tree left = sum(open);
            if (kind.equals("==") || kind.equals("<")) {
                return sign(left, take(kind), sum(open));
            }
            return left;
        }

        Tree sign(Tree left, String sign, Tree right) {
            Tree both = new Tree("sign", left, right);
            both.name = sign;
            return both;
        }

        Tree let(int open) {
            Tree let = new Tree("let");
            do {
                next();
                takeName(let.names);
                List<String> names = takeNames();
                take("=");
                Tree right = expression(open);
                if (!names.isEmpty()) {
                    right = new Tree("lambda", right);
                    right.names = names;
                }
                let.parts.add(right);
            } while (kind.equals(";"));
            take("in");
            let.parts.add(expression(open));
            return let;
        }

        Tree choice(int open) {
            next();
            Tree choice = new Tree("case", expression(open));
            Tree alternatives = new Tree("alternatives");
            choice.parts.add(alternatives);
            take("of");
            if (!kind.equals("{")) {
                throw new Wrong(place);
            }
            do {
                next();
                Tree alternative = new Tree("for " + kind);
                alternative.name = word;
                if (kind.equals("name")) {
                    takeName(alternative.names);
                } else if (kind.equals("number")) {
                    alternative.number = Integer.parseInt(take("number"));
                } else {
                    take("maker");
                    alternative.names = takeNames();
                }
                take("->");
                alternative.parts.add(expression(open));
                alternatives.parts.add(alternative);
            } while (kind.equals(";"));
            take("}");
            return choice;
        }

        Tree sum(int open) {
            Tree left = product(open);
            while (kind.equals("+") || kind.equals("-")) {
                left = sign(left, take(kind), product(open));
            }
            return left;
        }

        Tree product(int open) {
            Tree left = call(open);
            while (kind.equals("*") || kind.equals("/") || kind.equals("%")) {
                left = sign(left, take(kind), call(open));
            }
            return left;
        }

        Tree call(int open) {
            boolean makes = kind.equals("maker");
            Tree first = atom(open);
            List<Tree> others = new ArrayList<>();
            while (List.of("name", "maker", "number", "(").contains(kind)) {
                others.add(atom(open));
            }
            if (others.isEmpty()) {
                return first;
            }
            Tree call = new Tree(makes ? "datum" : "call");
            call.name = first.name;
            if (!makes) {
                call.parts.add(first);
            }
            call.parts.addAll(others);
            return call;
        }

        Tree atom(int open) {
            if (kind.equals("(")) {
                if (open == 60) {
                    throw new Wrong(place);
                }
                next();
                Tree inside = expression(open + 1);
                take(")");
                return inside;
            }
            if (!kind.equals("name") && !kind.equals("maker") && !kind.equals("number")) {
                throw new Wrong(place);
            }
            Tree atom = new Tree(kind);
            atom.place = place;
            atom.name = word;
            atom.number = kind.equals("number") ? Integer.parseInt(word) : 0;
            next();
            return atom;
        }
    }

    // The machine. A word is an Integer, a String (of a MAKER), a Defined or a Thing.

    private static final class Defined {
        final Tree tree;
        String state = "fresh";
        Object word;

        Defined(Tree tree) {
            this.tree = tree;
        }
    }

    private static final class Thing {
        String kind;
        Tree tree;
        String maker;
        Object function;
        Object word;
        Map<String, Object> free = new HashMap<>();
        List<Object> words = new ArrayList<>();

        Thing(String kind) {
            this.kind = kind;
        }

        int cells() {
            if (kind.equals("done")) {
                return 0;
            }
            return kind.equals("busy") ? 2 : 2 + free.size() + words.size() + (kind.equals("part") ? 1 : 0);
        }
    }

    private static final class Frame {
        final String kind;
        Tree tree;
        String sign;
        int number;
        boolean within;
        Object delay;
        Thing datum;
        Map<String, Object> free = new HashMap<>();
        List<Object> words = new ArrayList<>();

        Frame(String kind) {
            this.kind = kind;
        }

        int cells() {
            switch (kind) {
                case "update":
                case "right":
                    return 3;
                case "show":
                    return 2;
                case "rest":
                    return 4;
                default:
                    return 2 + free.size() + words.size();
            }
        }
    }

    private static final class Failed extends RuntimeException {
        private static final long serialVersionUID = 1;
        final int number;

        Failed(int number) {
            this.number = number;
        }
    }

    private static final class Model {
        Map<String, Tree> trees;
        Map<String, Defined> definitions;
        int heap;
        int steps;
        int made;
        int worked;
        int answer;
        StringBuilder shown = new StringBuilder();
        List<Frame> frames = new ArrayList<>();
        String mode;
        Tree tree;
        Map<String, Object> free;
        Object word;

        // What a step will have done, if it is no ERROR.
        List<Frame> later;
        List<Thing> things;

        int read(String text) {
            try {
                Grammar grammar = new Grammar(text);
                grammar.program();
                trees = grammar.definitions;
                return trees.size();
            } catch (Wrong at) {
                return -1 - at.place;
            }
        }

        void start(int size) {
            heap = size;
            definitions = new HashMap<>();
            for (Map.Entry<String, Tree> each : trees.entrySet()) {
                definitions.put(each.getKey(), new Defined(each.getValue()));
            }
            steps = 0;
            made = 0;
            worked = 0;
            answer = 0;
            shown = new StringBuilder();
            frames = new ArrayList<>();
            frames.add(new Frame("show"));
            enter(definitions.get("main"));
        }

        int frameCells(List<Frame> all) {
            return all.stream().mapToInt(Frame::cells).sum();
        }

        int step(int n) {
            for (int i = 0; i < n && answer == 0; i++) {
                steps++;
                later = new ArrayList<>(frames);
                things = new ArrayList<>();
                try {
                    oneStep();
                    frames = later;
                } catch (Failed failed) {
                    answer = 10 + failed.number;
                    frames = new ArrayList<>();
                }
                if (answer != 0) {
                    mode = "none";
                }
            }
            return answer;
        }

        /** What stops a step ahead of its changes: too many cells of frames, then no room. */
        void check() {
            if (frameCells(later) > 3000) {
                throw new Failed(7);
            }
            int cells = things.stream().mapToInt(Thing::cells).sum();
            if (cells > 0 && made + cells > heap && reached() + cells > heap) {
                throw new Failed(6);
            }
            made += cells;
        }

        int reached() {
            Set<Thing> all = java.util.Collections.newSetFromMap(new IdentityHashMap<>());
            List<Object> words = new ArrayList<>();
            for (Frame frame : frames) {
                words.addAll(frame.free.values());
                words.addAll(frame.words);
                words.add(frame.delay);
                words.add(frame.datum);
            }
            if (mode.equals("evaluate")) {
                for (String name : tree.free()) {
                    words.add(free.get(name));
                }
            } else if (!mode.equals("none")) {
                words.add(word);
            }
            for (Defined each : definitions.values()) {
                words.add(each.state.equals("done") ? each.word : null);
            }
            while (!words.isEmpty()) {
                Object last = words.remove(words.size() - 1);
                if (last instanceof Thing thing && all.add(thing)) {
                    words.addAll(thing.kind.equals("busy") || thing.kind.equals("done") ? List.of() : thing.free.values());
                    words.addAll(thing.words);
                    words.add(thing.function);
                    words.add(thing.word);
                }
            }
            return all.stream().mapToInt(Thing::cells).sum();
        }

        void evaluate(Tree next, Map<String, Object> with) {
            mode = "evaluate";
            tree = next;
            free = with;
        }

        void enter(Object next) {
            mode = "enter";
            word = next;
        }

        void give(Object next) {
            mode = "give";
            word = next;
        }

        void oneStep() {
            if (mode.equals("evaluate")) {
                evaluateStep();
            } else if (mode.equals("enter")) {
                enterStep();
            } else {
                Frame frame = later.remove(later.size() - 1);
                giveStep(frame);
            }
        }

        Map<String, Object> taken(Tree of, Map<String, Object> from) {
            Map<String, Object> taken = new HashMap<>();
            for (String name : of.free()) {
                taken.put(name, from.get(name));
            }
            return taken;
        }

        Object simpleWord(Tree simple, Map<String, Object> from) {
            switch (simple.op) {
                case "number":
                    return simple.number;
                case "maker":
                    return simple.name;
                default:
                    return simple.local ? from.get(simple.name) : definitions.get(simple.name);
            }
        }

        /** A new object for what is not simple; it is filled later, when all places are known. */
        Thing thingFor(Tree of) {
            boolean datum = of.op.equals("datum") && of.parts.stream().allMatch(Tree::simple);
            Thing thing = new Thing(of.op.equals("lambda") ? "function" : datum ? "datum" : "delay");
            thing.tree = of;
            things.add(thing);
            return thing;
        }

        void fill(Thing thing, Map<String, Object> from) {
            if (thing.kind.equals("datum")) {
                thing.maker = thing.tree.name;
                for (Tree part : thing.tree.parts) {
                    thing.words.add(simpleWord(part, from));
                }
            } else {
                thing.free = taken(thing.tree, from);
            }
        }

        Object inPlace(Tree of) {
            if (of.simple()) {
                return simpleWord(of, free);
            }
            Thing thing = thingFor(of);
            fill(thing, free);
            return thing;
        }

        void evaluateStep() {
            Frame frame;
            switch (tree.op) {
                case "name":
                    enter(simpleWord(tree, free));
                    break;
                case "number":
                case "maker":
                    give(simpleWord(tree, free));
                    break;
                case "lambda":
                    Object function = inPlace(tree);
                    check();
                    give(function);
                    break;
                case "datum":
                    Thing datum = new Thing("datum");
                    datum.maker = tree.name;
                    for (Tree part : tree.parts) {
                        datum.words.add(inPlace(part));
                    }
                    things.add(datum);
                    check();
                    give(datum);
                    break;
                case "call":
                    frame = new Frame("call");
                    for (Tree part : tree.parts.subList(1, tree.parts.size())) {
                        frame.words.add(inPlace(part));
                    }
                    later.add(frame);
                    check();
                    evaluate(tree.parts.get(0), free);
                    break;
                case "let":
                    evaluateLet();
                    break;
                case "case":
                    frame = new Frame("choice");
                    frame.tree = tree.parts.get(1);
                    frame.free = taken(frame.tree, free);
                    later.add(frame);
                    check();
                    evaluate(tree.parts.get(0), free);
                    break;
                default:
                    frame = new Frame("left");
                    frame.sign = tree.name;
                    frame.tree = tree.parts.get(1);
                    frame.free = taken(frame.tree, free);
                    later.add(frame);
                    check();
                    evaluate(tree.parts.get(0), free);
                    break;
            }
        }

        void evaluateLet() {
            Map<String, Object> inside = new HashMap<>(free);
            for (int i = 0; i < tree.names.size(); i++) {
                inside.put(tree.names.get(i), thingFor(tree.parts.get(i)));
            }
            for (Thing thing : things) {
                fill(thing, inside);
            }
            check();
            evaluate(tree.parts.get(tree.names.size()), inside);
        }

        void enterStep() {
            if (word instanceof Defined defined && defined.tree.names.isEmpty()) {
                if (defined.state.equals("busy")) {
                    throw new Failed(1);
                }
                if (defined.state.equals("done")) {
                    give(defined.word);
                    return;
                }
                pushUpdate(defined);
                defined.state = "busy";
                evaluate(defined.tree.parts.get(0), Map.of());
            } else if (word instanceof Thing thing && thing.kind.equals("busy")) {
                throw new Failed(1);
            } else if (word instanceof Thing thing && thing.kind.equals("done")) {
                give(thing.word);
            } else if (word instanceof Thing thing && thing.kind.equals("delay")) {
                pushUpdate(thing);
                thing.kind = "busy";
                evaluate(thing.tree, thing.free);
            } else {
                give(word);
            }
        }

        void pushUpdate(Object delay) {
            Frame update = new Frame("update");
            update.delay = delay;
            later.add(update);
            check();
            worked++;
        }

        void giveStep(Frame frame) {
            switch (frame.kind) {
                case "update":
                    if (frame.delay instanceof Defined defined) {
                        defined.state = "done";
                        defined.word = word;
                    } else if (frame.delay instanceof Thing thing) {
                        thing.kind = "done";
                        thing.word = word;
                    }
                    break;
                case "choice":
                    giveChoice(frame);
                    break;
                case "left":
                    if (!(word instanceof Integer)) {
                        throw new Failed(4);
                    }
                    Frame right = new Frame("right");
                    right.sign = frame.sign;
                    right.number = (Integer) word;
                    later.add(right);
                    check();
                    evaluate(frame.tree, frame.free);
                    break;
                case "right":
                    if (!(word instanceof Integer)) {
                        throw new Failed(4);
                    }
                    give(reckon(frame.number, frame.sign, (Integer) word));
                    break;
                case "call":
                    giveCall(frame);
                    break;
                default:
                    giveShow(frame.within);
                    break;
            }
        }

        Object reckon(int left, String sign, int right) {
            if (right == 0 && (sign.equals("/") || sign.equals("%"))) {
                throw new Failed(5);
            }
            switch (sign) {
                case "+":
                    return left + right;
                case "-":
                    return left - right;
                case "*":
                    return left * right;
                case "/":
                    return left / right;
                case "%":
                    return left % right;
                case "==":
                    return left == right ? "True" : "False";
                default:
                    return left < right ? "True" : "False";
            }
        }

        void giveChoice(Frame frame) {
            List<Object> fields = word instanceof Thing thing && thing.kind.equals("datum") ? thing.words : List.of();
            String maker = word instanceof Thing thing ? thing.maker : word instanceof String letters ? letters : null;
            for (Tree alternative : frame.tree.parts) {
                Map<String, Object> inside = new HashMap<>(frame.free);
                boolean fits;
                if (alternative.op.equals("for name")) {
                    fits = true;
                    inside.put(alternative.name, word);
                } else if (alternative.op.equals("for number")) {
                    fits = word.equals(alternative.number);
                } else {
                    fits = alternative.name.equals(maker) && alternative.names.size() == fields.size();
                    for (int i = 0; fits && i < fields.size(); i++) {
                        inside.put(alternative.names.get(i), fields.get(i));
                    }
                }
                if (fits) {
                    evaluate(alternative.parts.get(0), inside);
                    return;
                }
            }
            throw new Failed(3);
        }

        void giveCall(Frame frame) {
            List<Object> all = new ArrayList<>();
            Object called = word;
            if (word instanceof Thing part && part.kind.equals("part")) {
                all.addAll(part.words);
                called = part.function;
            }
            all.addAll(frame.words);
            Tree function;
            if (called instanceof Thing thing && thing.kind.equals("function")) {
                function = thing.tree;
            } else if (called instanceof Defined defined) {
                function = defined.tree;
            } else {
                throw new Failed(2);
            }
            int takes = function.names.size();
            if (all.size() < takes) {
                Thing part = new Thing("part");
                part.function = called;
                part.words = all;
                things.add(part);
                check();
                give(part);
                return;
            }
            if (all.size() > takes) {
                Frame others = new Frame("call");
                others.words.addAll(all.subList(takes, all.size()));
                later.add(others);
            }
            Map<String, Object> inside = new HashMap<>();
            if (called instanceof Thing thing) {
                inside.putAll(thing.free);
            }
            for (int i = 0; i < takes; i++) {
                inside.put(function.names.get(i), all.get(i));
            }
            evaluate(function.parts.get(0), inside);
        }

        void giveShow(boolean within) {
            if (word instanceof Thing thing && thing.kind.equals("datum")) {
                shown.append(within ? "(" : "").append(thing.maker);
                Frame rest = new Frame("rest");
                rest.datum = thing;
                rest.within = within;
                later.add(rest);
            } else {
                boolean plain = word instanceof Integer || word instanceof String;
                shown.append(plain ? word.toString() : "?");
            }
            boolean entered = false;
            while (!entered && !later.isEmpty() && later.get(later.size() - 1).kind.equals("rest")) {
                Frame rest = later.get(later.size() - 1);
                if (rest.number < rest.datum.words.size()) {
                    shown.append(" ");
                    enter(rest.datum.words.get(rest.number));
                    rest.number++;
                    Frame show = new Frame("show");
                    show.within = true;
                    later.add(show);
                    entered = true;
                } else {
                    later.remove(rest);
                    shown.append(rest.within ? ")" : "");
                }
            }
            if (shown.length() > 1500) {
                shown.setLength(1500);
                throw new Failed(8);
            }
            check();
            answer = later.isEmpty() ? 1 : 0;
        }
    }

    // Random programs: most of them of fitting types, some of them spoiled.

    private static final class Maker {
        private static final String[] LIBRARY = {
            "from n = C n (from (n + 1));",
            "take n xs = case n of { 0 -> N; m -> case xs of { C y ys -> C y (take (n - 1) ys); N -> N } };",
            "map f xs = case xs of { N -> N; C y ys -> C (f y) (map f ys) };",
            "sum xs = case xs of { N -> 0; C y ys -> y + sum ys };",
            "add a xs = case xs of { N -> a; C y ys -> add (a + y) ys };",
            "fold f z xs = case xs of { N -> z; C y ys -> f y (fold f z ys) };",
            "fix f = let x = f x in x;",
            "comp f g x = f (g x);",
            "fac n = case n < 2 of { True -> 1; False -> n * fac (n - 1) };",
            "fib n = case n < 2 of { True -> n; z -> fib (n - 1) + fib (n - 2) };",
            "ones = C 1 ones;",
            "nats = let go n = C n (go (n + 1)) in go 0;",
            "app xs ys = case xs of { N -> ys; C z zs -> C z (app zs ys) };",
            "k a b = a;",
            "id x = x;",
            "flip f a b = f b a;",
            "s f g x = f x (g x);",
            "keep p xs = case xs of { N -> N; C y ys -> case p y of { 0 -> keep p ys; z -> C y (keep p ys) } };",
            "sieve xs = case xs of { N -> N; C p ys -> C p (sieve (keep (\\y -> y % p) ys)) };",
            "rev a xs = case xs of { N -> a; C y ys -> rev (C y a) ys };",
            "twice f = \\x -> f (f x);",
            "pair = \\a b c -> c a b;",
            "deep n = 1 + deep n;",
            "grow n = grow (n + 1);",
            "nest n = C (nest n) (nest n);",
            "loop = loop;",
        };
        private static final String SIGNS = "+-*/%";
        final Random random;
        private List<String> names;
        private List<String> kinds;
        private Set<String> wanted;
        private int budget;
        private int fresh;

        Maker(Random random) {
            this.random = random;
        }

        private boolean chance(int of) {
            return random.nextInt(of) == 0;
        }

        private String pick(String... all) {
            return all[random.nextInt(all.length)];
        }

        /** A program whose frames come to their limit, in steps of several sizes, from several beginnings. */
        private String deep() {
            String body = pick("case deeper a b x of { z -> T a b }", "deeper a b x + a", "deeper a b x * (a - b)", "1 + deeper a b x",
                "deeper a b x 1", "let y = deeper a b y in y + 1", "case x of { N -> 1; z -> a * (b + deeper a b 1) }",
                "let go y = case go y of { z -> T a b x } in go x", "let go y = go y - (a + b + x) in go x",
                "let go y = 2 * go (y + a) in go b");
            String thunks = "deeper n y = case n of { 0 -> y; m -> deeper (n - 1) (y " + pick("+ 0", "* n", "- n * n") + ") };";
            String called = chance(3) ? thunks + " main = (deeper " + (400 + random.nextInt(800)) + " 1)"
                : "deeper a b x = " + body + "; main = (deeper 1 2 3)";
            return called + " 1".repeat(random.nextInt(8)) + ";";
        }

        String text() {
            if (chance(25)) {
                return deep();
            }
            for (int tries = 0; tries < 1000; tries++) {
                String text = program();
                if (chance(4)) {
                    text = spoiled(text);
                }
                if (text.length() <= 2000) {
                    return text;
                }
            }
            return "main = 1;";
        }

        private String program() {
            names = new ArrayList<>();
            kinds = new ArrayList<>();
            wanted = new LinkedHashSet<>();
            budget = 5 + random.nextInt(60);
            fresh = 0;
            List<String> parts = new ArrayList<>();
            parts.add("main = " + expression(pick("I", "L", "T", "T", "F", "B")) + ";");
            Set<String> done = new HashSet<>();
            while (!done.containsAll(wanted)) {
                for (String name : new ArrayList<>(wanted)) {
                    if (done.add(name)) {
                        parts.add(library(name));
                    }
                }
            }
            StringBuilder all = new StringBuilder();
            java.util.Collections.shuffle(parts, random);
            for (String part : parts) {
                all.append(part).append(pick("", " ", "\n"));
            }
            return all.toString();
        }

        private String library(String name) {
            for (String each : LIBRARY) {
                if (each.startsWith(name + " ")) {
                    if (each.contains("keep ")) {
                        wanted.add("keep");
                    }
                    return each;
                }
            }
            throw new IllegalStateException(name);
        }

        private String use(String name) {
            wanted.add(name);
            return name;
        }

        private String spoiled(String text) {
            StringBuilder all = new StringBuilder(text);
            int changes = 1 + random.nextInt(3);
            for (int i = 0; i < changes && all.length() > 0; i++) {
                int at = random.nextInt(all.length());
                String bit = pick(";", "=", "\\", "->", "{", "}", "(", ")", "+", "-", "*", "/", "%", "==", "<", " let ", " in ",
                    " case ", " of ", "x", "Y", "7", "1234567890", " ", "\n", "\t", "$", ">", "\u00e9", "main", "((", "))");
                switch (random.nextInt(5)) {
                    case 0:
                        all.deleteCharAt(at);
                        break;
                    case 1:
                        all.insert(at, bit);
                        break;
                    case 2:
                        all.replace(at, at + 1, bit);
                        break;
                    case 3:
                        all.delete(at, Math.min(all.length(), at + random.nextInt(20)));
                        break;
                    default:
                        all.insert(at, all.substring(at, Math.min(all.length(), at + random.nextInt(30))));
                        break;
                }
            }
            return all.toString();
        }

        private String variable(String kind) {
            List<String> fitting = new ArrayList<>();
            for (int i = 0; i < names.size(); i++) {
                boolean hidden = names.lastIndexOf(names.get(i)) != i;
                if (!hidden && (kinds.get(i).equals(kind) || chance(60))) {
                    fitting.add(names.get(i));
                }
            }
            return fitting.isEmpty() ? null : fitting.get(random.nextInt(fitting.size()));
        }

        private String newName() {
            if (chance(4) && !names.isEmpty()) {
                return names.get(random.nextInt(names.size()));
            }
            fresh++;
            return pick("x", "y", "v", "q") + (fresh % 7 == 0 ? "" : String.valueOf(fresh));
        }

        private void push(String name, String kind) {
            names.add(name);
            kinds.add(kind);
        }

        private void pop(int many) {
            for (int i = 0; i < many; i++) {
                names.remove(names.size() - 1);
                kinds.remove(kinds.size() - 1);
            }
        }

        private String atom(String kind) {
            String inside = expression(kind);
            boolean plain = inside.matches("[A-Za-z0-9]+");
            if (plain && !chance(10)) {
                return inside;
            }
            return "(" + inside + ")";
        }

        /** Kinds: I a number, L a list, F a function of a number, G one of two, B a truth, T anything to be shown. */
        private String expression(String kind) {
            if (chance(80)) {
                kind = pick("I", "L", "F", "G", "B", "T");
            }
            budget--;
            if (budget < 0 || chance(6)) {
                String found = variable(kind);
                return found != null ? found : least(kind);
            }
            if (chance(5)) {
                return common(kind);
            }
            switch (kind) {
                case "I":
                    return number();
                case "L":
                    return list();
                case "F":
                    return function();
                case "G":
                    return functionOfTwo();
                case "B":
                    return pick("True", "False", atom("I") + " < " + atom("I"), atom("I") + " == " + atom("I"));
                default:
                    return datum();
            }
        }

        private String least(String kind) {
            switch (kind) {
                case "I":
                    return String.valueOf(random.nextInt(12));
                case "L":
                    return pick("N", use("ones"));
                case "F":
                    return use("id");
                case "G":
                    return use("k");
                case "B":
                    return pick("True", "False");
                default:
                    return pick("Z", "7", "(U 1)", "(\\z -> z)");
            }
        }

        /** What any kind can be: a let, a case, a call of a \ . */
        private String common(String kind) {
            switch (random.nextInt(7)) {
                case 0:
                    return let(kind);
                case 1: {
                    String looked = expression("L");
                    String empty = expression(kind);
                    String one = newName();
                    String rest = one + "r";
                    push(one, "I");
                    push(rest, "L");
                    String full = expression(kind);
                    pop(2);
                    return "case " + looked + " of { N -> " + empty + "; C " + one + " " + rest + " -> " + full + " }";
                }
                case 2: {
                    String looked = expression("I");
                    String some = expression(kind);
                    String name = newName();
                    push(name, "I");
                    String other = expression(kind);
                    pop(1);
                    return "case " + looked + " of { " + random.nextInt(5) + " -> " + some + "; " + name + " -> " + other + " }";
                }
                case 3:
                    return "case " + expression("B") + " of { True -> " + expression(kind) + "; False -> " + expression(kind) + " }";
                case 4: {
                    String given = pick("I", "L", "F");
                    String argument = atom(given);
                    String name = newName();
                    push(name, given);
                    String inside = expression(kind);
                    pop(1);
                    return "(\\" + name + " -> " + inside + ") " + argument;
                }
                case 5:
                    return use(pick("k", "id", "k")).equals("k") ? "k " + atom(kind) + " " + atom("T") : use("id") + " " + atom(kind);
                default:
                    return "case P " + atom(kind) + " " + atom("I") + " of { P a b -> a; c -> " + expression(kind) + " }";
            }
        }

        private String let(String kind) {
            int many = 1 + random.nextInt(3);
            List<String> bound = new ArrayList<>();
            List<String> boundKinds = new ArrayList<>();
            for (int i = 0; i < many; i++) {
                String name = newName();
                if (!bound.contains(name)) {
                    bound.add(name);
                    boundKinds.add(pick("I", "L", "F", "G"));
                }
            }
            // A right side sees all names, but the kinds of those that would make it hang are hidden mostly.
            boolean cyclic = chance(3);
            StringBuilder all = new StringBuilder("let ");
            for (int i = 0; i < bound.size(); i++) {
                boolean list = boundKinds.get(i).equals("L");
                int seen = cyclic ? bound.size() : i;
                for (int j = 0; j < bound.size(); j++) {
                    push(bound.get(j), j < seen ? boundKinds.get(j) : "hidden");
                }
                all.append(i == 0 ? "" : "; ").append(bound.get(i));
                if (list && chance(2)) {
                    all.append(" = C ").append(atom("I")).append(" ").append(bound.get(i));
                } else if (boundKinds.get(i).equals("F") && chance(2)) {
                    String name = newName();
                    push(name, "I");
                    all.append(" ").append(name).append(" = ").append(expression("I"));
                    pop(1);
                } else {
                    all.append(" = ").append(expression(boundKinds.get(i)));
                }
                pop(bound.size());
            }
            for (int j = 0; j < bound.size(); j++) {
                push(bound.get(j), boundKinds.get(j));
            }
            all.append(" in ").append(expression(kind));
            pop(bound.size());
            return all.toString();
        }

        private String number() {
            switch (random.nextInt(12)) {
                case 0:
                case 1:
                case 2:
                    return atom("I") + " " + SIGNS.charAt(random.nextInt(5)) + " " + atom("I");
                case 3:
                    return atom("I") + pick("+", " - ", "*") + atom("I") + pick(" * ", "-", " + ") + atom("I");
                case 4:
                    return use("sum") + " (" + use("take") + " " + random.nextInt(8) + " " + atom("L") + ")";
                case 5:
                    return use("add") + " " + atom("I") + " (" + use("take") + " " + random.nextInt(8) + " " + atom("L") + ")";
                case 6:
                    return use(pick("fac", "fib")) + " " + random.nextInt(8);
                case 7:
                    return atom("F") + " " + atom("I");
                case 8:
                    return atom("G") + " " + atom("I") + " " + atom("I");
                case 9:
                    return use("fold") + " " + atom("G") + " " + atom("I") + " (" + use("take") + " 5 " + atom("L") + ")";
                case 10:
                    return use("fix") + " (\\f n -> case n < 1 of { True -> " + expression("I") + "; z -> n + f (n - 1) }) "
                        + random.nextInt(6);
                default:
                    return chance(12) ? use(pick("deep", "grow", "loop", "nest")) + " 1" : String.valueOf(random.nextInt(100));
            }
        }

        private String list() {
            switch (random.nextInt(11)) {
                case 0:
                case 1:
                    return "C " + atom("I") + " " + atom("L");
                case 2:
                    return use("take") + " " + random.nextInt(6) + " " + atom("L");
                case 3:
                    return use("map") + " " + atom("F") + " " + atom("L");
                case 4:
                    return use("from") + " " + atom("I");
                case 5:
                    return use("app") + " " + atom("L") + " " + atom("L");
                case 6:
                    return use("keep") + " " + atom("F") + " " + atom("L");
                case 7:
                    return use("take") + " 4 (" + use("sieve") + " (" + use("from") + " 2))";
                case 8:
                    return use("rev") + " N (" + use("take") + " 6 " + atom("L") + ")";
                case 9:
                    return use("nats");
                default:
                    return use("take") + " 3 " + use("ones");
            }
        }

        private String function() {
            switch (random.nextInt(8)) {
                case 0:
                case 1: {
                    String name = newName();
                    push(name, "I");
                    String inside = expression("I");
                    pop(1);
                    return "\\" + name + " -> " + inside;
                }
                case 2:
                    return atom("G") + " " + atom("I");
                case 3:
                    return use("comp") + " " + atom("F") + " " + atom("F");
                case 4:
                    return use("twice") + " " + atom("F");
                case 5:
                    return use("k") + " " + atom("I");
                case 6:
                    return use("s") + " " + atom("G") + " " + atom("F");
                default:
                    return use(pick("fac", "id"));
            }
        }

        private String functionOfTwo() {
            switch (random.nextInt(5)) {
                case 0:
                case 1: {
                    String one = newName();
                    String two = one + "t";
                    push(one, "I");
                    push(two, "I");
                    String inside = expression("I");
                    pop(2);
                    return "\\" + one + " " + two + " -> " + inside;
                }
                case 2:
                    return use("flip") + " " + atom("G");
                case 3: {
                    String name = newName();
                    push(name, "I");
                    String inside = expression("F");
                    pop(1);
                    return "\\" + name + " -> " + inside;
                }
                default:
                    return use("k");
            }
        }

        private String datum() {
            StringBuilder all = new StringBuilder(pick("T", "Tuple", "R2", "True", "C"));
            int many = 1 + random.nextInt(4);
            for (int i = 0; i < many; i++) {
                all.append(" ").append(atom(pick("I", "L", "F", "T", "B", "I")));
            }
            return chance(8) ? use("pair") + " " + atom("I") + " " + atom("L") : all.toString();
        }
    }
}
