/** Section 1 of the document, TEXTS, sentence by sentence: each boundary that it names, and both sides of it. */
public final class TextBoundaryTests extends Due {
    private static final String[] WORDS = {
        "n", "K", "7", "let", "in", "case", "of", ";", "=", "\\", "->", "{", "}", "(", ")", "+", "-", "*", "/", "%", "==", "<",
    };
    private static final String ATOMS = " n K 7 ( ";
    private static final String SIGNS = " + - * / % ";
    private static final String COMPARES = " == < ";
    private static final String EXPRESSION = ATOMS + "let case \\ ";
    private static final String BEHIND_ATOM = ATOMS + SIGNS + COMPARES;

    public static void main(String[] args) {
        tape();
        blanks();
        firstBytes();
        bytesBehindTheFirst();
        keptWords();
        digits();
        longerSigns();
        grammar();
        oneOrMore();
        lackingWords();
        twice();
        notTwice();
        nesting();
        nestingEnds();
        nestingMixed();
        firstOfSeveral();
        notBound();
        mainLacks();
        boundByTheInnermost();
        boundFromTo();
        free();
        finish("TextBoundaryTests");
    }

    // "The TAPE has at most 2000 bytes."

    private static void tape() {
        for (int length = 1990; length <= 2000; length++) {
            String blanks = many(" ", length - 9);
            dueProgram(blanks + "main = 1;", 1);
            dueProgram("main = 1;" + blanks, 1);
            dueWrong("main = 1;" + blanks.substring(1) + "1", length - 1);
            dueWrong("main = 1 " + blanks, length);
        }
        // One NAME, one MAKER, of all the bytes that there are.
        String name = many("n", 995);
        dueProgram(name + "=1;main=" + name + "; ", 2);
        dueWrong(name + "=1;main=" + name + ";;", 1999);
        dueWrong(name + "=1;main=" + name + "n;", 1003);
        dueProgram("main=K" + many("k", 1993) + ";", 1);
        dueWrong("main=K" + many("k", 1994), 2000);
    }

    // "Blanks (32) and bytes 10 stand between words as one likes."

    private static void blanks() {
        String[] words = {
            "f", "x", "y", "=", "let", "a", "=", "x", ";", "g", "b", "=", "\\", "c", "d", "->", "b", "+", "c", "*", "d", "in", "case",
            "g", "1", "2", "3", "==", "(", "a", "-", "y", ")", "of", "{", "True", "->", "P", "a", "9", ";", "z", "->", "z", "}", ";",
            "main", "=", "f", "8", "1", ";",
        };
        String[] between = {" ", "\n", "  ", "\n\n", " \n", "\n ", "       \n\n\n       "};
        for (String gap : between) {
            StringBuilder text = new StringBuilder();
            for (String word : words) {
                text.append(gap).append(word);
            }
            dueShown(text.toString(), "P 8 9");
            dueShown(text.substring(gap.length()), "P 8 9");
            dueShown(text + gap, "P 8 9");
        }
        // None at all, where two words don't run into one.
        dueShown("f x y=let a=x;g b=\\c d->b+c*d in case g 1 2 3==(a-y)of{True->P a 9;z->z};main=f 8 1;", "P 8 9");
        dueShown("main=let x=1in x;", "1");
        dueShown("main=case 1of{1->2};", "2");
        // Within a word they make two of it.
        dueWrong("ma in = 1;", 3);
        dueWrong("main = l et x = 1 in x;", 14);
        dueWrong("main = 1 = = 1;", 9);
        dueWrong("main = \\x - > x;", 10);
        dueEnd("main = 1 2;", 10, 12, 4);
        dueShown("main = 12;", "12");
    }

    /** Every byte where an ATOM, a sign or the end of the DEFINITION can stand. */
    private static void firstBytes() {
        for (int b = 0; b < 256; b++) {
            char c = (char) b;
            int want = -1 - 9;
            if (c == ' ' || c == '\n' || c >= '0' && c <= '9' || c >= 'A' && c <= 'Z' || "+-*/%<".indexOf(c) >= 0) {
                want = 1;
            } else if (c == ';') {
                want = -1 - 11;
            } else if (c == '(') {
                want = -1 - 12;
            }
            // A small letter is a NAME that is not bound, at the same place as what begins no word.
            dueProgram("main = 1 " + c + " 2;", want);
            due("a NAME of the byte " + b, read(new LazyHouse(), c + "=1;main=1;"),
                c >= 'a' && c <= 'z' ? 2 : c == ' ' || c == '\n' ? -2 : -1);
        }
    }

    // "a NAME (a small letter a .. z, and all letters and digits behind it ..), a MAKER (a capital letter, likewise)"

    private static void bytesBehindTheFirst() {
        for (int b = 0; b < 256; b++) {
            char c = (char) b;
            boolean within = c >= '0' && c <= '9' || c >= 'A' && c <= 'Z' || c >= 'a' && c <= 'z';
            if (within) {
                dueShown("main = A" + c + "b;", "A" + c + "b");
                dueShown("a" + c + "b = 5; main = a" + c + "b;", "5");
                dueShown("main = A" + c + ";", "A" + c);
                continue;
            }
            int want = -1 - 8;
            if (c == ' ' || c == '\n' || "+-*/%<".indexOf(c) >= 0) {
                want = -1 - 9;
            } else if (c == '(' || c == ';') {
                want = -1 - 10;
            }
            dueProgram("main = A" + c + "b;", want);
            // Where the word ends there, a is a NAME of its own, which is bound, and b is not.
            dueProgram("main=\\a->a" + c + "b;", want - 2);
        }
        // Names and makers are the same only if all of their bytes are.
        dueShown("a = 1; aa = 2; aA = 3; a1 = 4; ab = 5; main = T a aa aA a1 ab;", "T 1 2 3 4 5");
        dueShown("main = case Ab of { A -> 1; AB -> 2; Abb -> 3; Aa -> 4; Ab -> 5 };", "5");
    }

    // "not let, in, case, of"

    private static void keptWords() {
        String[] kept = {"let", "in", "case", "of"};
        for (String word : kept) {
            dueWrong(word + " = 1; main = 1;", 0);
            dueWrong("f " + word + " = 1; main = 1;", 2);
            dueWrong("main = \\" + word + " -> 1;", 8);
            dueWrong("main = let " + word + " = 1 in 1;", 11);
            dueWrong("main = case 1 of { " + word + " -> 1 };", 19);
            dueWrong("main = case 1 of { P " + word + " -> 1 };", 21);
            String[] names = {word + word, word + "x", word + "1", word + "X", word.substring(0, word.length() - 1), "x" + word};
            for (String name : names) {
                dueShown(name + " = 3; main = " + name + ";", "3");
            }
            String maker = word.substring(0, 1).toUpperCase() + word.substring(1);
            dueShown("main = " + maker + ";", maker);
        }
        dueShown("lET = 1; iN = 2; cASE = 3; oF = 4; main = T lET iN cASE oF;", "T 1 2 3 4");
    }

    // "a NUMBER (all digits that stand there, 9 at most)"; "ten digits: there"

    private static void digits() {
        for (int n = 1; n <= 9; n++) {
            dueShown("main = " + many("9", n) + ";", many("9", n));
            dueShown("main = " + many("0", n - 1) + "7;", "7");
            dueShown("main = case 7 of { " + many("0", n - 1) + "7 -> Yes; z -> No };", "Yes");
        }
        for (int n = 10; n <= 30; n++) {
            dueWrong("main = " + many("1", n) + ";", 7);
            dueWrong("main = " + many("0", n) + ";", 7);
            dueWrong("main = 1 + " + many("9", n) + ";", 11);
            dueWrong("main = case 1 of { " + many("1", n) + " -> 1 };", 19);
        }
        dueWrong("main = 123456789 1234567890;", 17);
        dueWrong("main = 1234567890k;", 7);
        dueWrong("main = 1234567890", 7);
        dueShown("main = 214748364 * 10 + 7;", "2147483647");
        // All digits that stand there, and no more.
        dueShown("main = case 3 of { 3->123456789-1 };", "123456788");
        dueEnd("main = 123456789K;", 10, 12, 4);
        dueEnd("main = 1(2);", 10, 12, 4);
    }

    // "where two begin alike the longer one counts"

    private static void longerSigns() {
        dueShown("main = 1==1;", "True");
        dueWrongAtMark("main = 1~= =1;");
        dueWrongAtMark("main = 1==~=1;");
        dueWrongAtMark("main ~== 1;");
        dueWrongAtMark("main = let a~==1 in a;");
        dueWrongAtMark("main = 1==~==1;");
        dueShown("main = (\\x->x)1;", "1");
        dueWrongAtMark("main = 1~->2;");
        dueWrongAtMark("main = 1-~->2;");
        dueShown("main = 1-2;", "-1");
        dueWrongAtMark("main = 1 - ~> 2;");
        dueWrongAtMark("main = \\x ~- > x;");
        dueWrongAtMark("main = 1 <~= 2;");
        dueWrongAtMark("main = 1 <~- 2;");
        dueShown("main=1<2;", "True");
        dueWrongAtMark("main = 1~=");
        dueWrongAtMark("main = 1 -~");
        dueWrongAtMark("main = 1 ==~");
    }

    // "the first byte of a word that can't stand there": every word behind every kind of place.

    private static void grammar() {
        dueNext("", " n ");
        dueNext("main", " n = ");
        dueNext("main a", " n = ");
        dueNext("main =", EXPRESSION);
        dueNext("main = 1 ;", " n ");
        dueNext("main = 1", BEHIND_ATOM + ";");
        dueNext("main = K", BEHIND_ATOM + ";");
        dueNext("main = main", BEHIND_ATOM + ";");
        dueNext("main = ( 1 )", BEHIND_ATOM + ";");
        dueNext("main = K 1", BEHIND_ATOM + ";");
        dueNext("main = 1 K", BEHIND_ATOM + ";");
        String[] signs = {"+", "-", "*", "/", "%", "==", "<"};
        for (String sign : signs) {
            boolean compares = sign.equals("==") || sign.equals("<");
            dueNext("main = 1 " + sign, ATOMS);
            dueNext("main = 1 " + sign + " 2", (compares ? ATOMS + SIGNS : BEHIND_ATOM) + " ; ");
            dueNext("main = ( 1 " + sign + " 2", (compares ? ATOMS + SIGNS : BEHIND_ATOM) + " ) ");
            dueNext("main = ( 1 " + sign + " 2 )", BEHIND_ATOM + " ; ");
        }
        dueNext("main = 1 < 2 +", ATOMS);
        dueNext("main = 1 < 2 *", ATOMS);
        dueNext("main = 1 + 2 == 3 * 4", ATOMS + SIGNS + " ; ");
        dueNext("main = (", EXPRESSION);
        dueNext("main = ( 1", BEHIND_ATOM + " ) ");
        dueNext("main = 1 (", EXPRESSION);
        grammarOfLet();
        grammarOfLambda();
        grammarOfCase();
    }

    private static void grammarOfLet() {
        dueNext("main = let", " n ");
        dueNext("main = let a", " n = ");
        dueNext("main = let a b", " n = ");
        dueNext("main = let a =", EXPRESSION);
        dueNext("main = let a b =", EXPRESSION);
        dueNext("main = let a = 1", BEHIND_ATOM + " ; in ");
        dueNext("main = let a b = 1", BEHIND_ATOM + " ; in ");
        dueNext("main = let a = 1 ;", " n ");
        dueNext("main = let a = 1 ; b", " n = ");
        dueNext("main = let a = 1 ; b = 2", BEHIND_ATOM + " ; in ");
        dueNext("main = let a = 1 in", EXPRESSION);
        dueNext("main = let a = 1 in 2", BEHIND_ATOM + " ; ");
        dueNext("main = ( let a = 1 in 2", BEHIND_ATOM + " ) ");
        dueNext("main = let a = let b = 1", BEHIND_ATOM + " ; in ");
        dueNext("main = let a = let b = 1 in 2", BEHIND_ATOM + " ; in ");
        dueNext("main = let a = ( 1", BEHIND_ATOM + " ) ");
    }

    private static void grammarOfLambda() {
        dueNext("main = \\", " n ");
        dueNext("main = \\ a", " n -> ");
        dueNext("main = \\ a b", " n -> ");
        dueNext("main = \\ a ->", EXPRESSION);
        dueNext("main = \\ a -> 1", BEHIND_ATOM + " ; ");
        dueNext("main = ( \\ a -> 1", BEHIND_ATOM + " ) ");
        dueNext("main = let a = \\ b -> 1", BEHIND_ATOM + " ; in ");
    }

    private static void grammarOfCase() {
        dueNext("main = case", EXPRESSION);
        dueNext("main = case 1", BEHIND_ATOM + " of ");
        dueNext("main = case 1 of", " { ");
        dueNext("main = case 1 of {", " n K 7 ");
        dueNext("main = case 1 of { 1", " -> ");
        dueNext("main = case 1 of { a", " -> ");
        dueNext("main = case 1 of { A", " n -> ");
        dueNext("main = case 1 of { A a", " n -> ");
        dueNext("main = case 1 of { A a b", " n -> ");
        dueNext("main = case 1 of { 1 ->", EXPRESSION);
        dueNext("main = case 1 of { A ->", EXPRESSION);
        dueNext("main = case 1 of { a ->", EXPRESSION);
        dueNext("main = case 1 of { 1 -> 2", BEHIND_ATOM + " ; } ");
        dueNext("main = case 1 of { 1 -> 2 ;", " n K 7 ");
        dueNext("main = case 1 of { 1 -> 2 ; 3 -> 4", BEHIND_ATOM + " ; } ");
        dueNext("main = case 1 of { 1 -> 2 }", " ; ");
        dueNext("main = ( case 1 of { 1 -> 2 }", " ) ");
        dueNext("main = case case 1 of { 1 -> 2 }", " of ");
        dueNext("main = let a = case 1 of { 1 -> 2 }", " ; in ");
        dueNext("main = let a = 1 in case 1 of { 1 -> 2 }", " ; ");
        dueNext("main = \\ a -> case 1 of { 1 -> 2 }", " ; ");
        dueNext("main = case 1 of { 1 -> case 1 of { 1 -> 2 }", " ; } ");
        dueNext("main = case \\ a -> 1", BEHIND_ATOM + " of ");
        dueNext("main = case let a = 1 in 1", BEHIND_ATOM + " of ");
        dueNext("main = case 1 of { 1 -> \\ a -> 1", BEHIND_ATOM + " ; } ");
    }

    /** Of all words only the told ones can stand behind the text; with one of these there lacks another behind it. */
    private static void dueNext(String text, String told) {
        String all = " " + told + " ";
        String before = text.isEmpty() ? "" : text + " ";
        for (String word : WORDS) {
            String longer = before + word;
            boolean stands = all.contains(" " + word + " ");
            boolean ends = stands && word.equals(";") && isOutermost(text);
            dueProgram(longer, ends ? 1 : -1 - (stands ? longer.length() : before.length()));
            if (stands && !ends) {
                dueWrong(longer + " \n", longer.length() + 2);
            }
        }
        String[] none = {"$", "\t", "\0", "\u00ff", "1234567890", ">", "!", "_", "'"};
        for (String word : none) {
            dueWrong(before + word, before.length());
        }
    }

    /** Does a ; behind the text end a DEFINITION? */
    private static boolean isOutermost(String text) {
        int lets = 0;
        int open = 0;
        for (String word : text.split(" ")) {
            lets += word.equals("let") ? 1 : word.equals("in") ? -1 : 0;
            open += word.equals("{") || word.equals("(") ? 1 : word.equals("}") || word.equals(")") ? -1 : 0;
        }
        return lets == 0 && open == 0;
    }

    // "one or more", "any number of", "with ; between"

    private static void oneOrMore() {
        for (int n = 1; n <= 60; n++) {
            StringBuilder definitions = new StringBuilder();
            StringBuilder names = new StringBuilder();
            StringBuilder binds = new StringBuilder();
            StringBuilder alternatives = new StringBuilder();
            for (int i = 1; i <= n; i++) {
                definitions.append("d" + i + "=" + i + ";");
                names.append(" d").append(i);
                binds.append(i == 1 ? "" : ";").append("d" + i + "=" + i);
                alternatives.append(i == 1 ? "" : ";").append(i + "->" + (i + 100));
            }
            dueProgram(definitions + "main=1;", n + 1);
            dueShown(definitions + "main=d" + n + ";", "" + n);
            dueShown("f" + names + "=d" + n + "; main = f" + many(" 0", n - 1) + " 8;", "8");
            dueShown("main = (\\" + names + " -> d" + n + ")" + many(" 0", n - 1) + " 8;", "8");
            dueShown("main = let f" + names + " = d" + n + " in f" + many(" 0", n - 1) + " 8;", "8");
            dueShown("main = let " + binds + " in d" + n + ";", "" + n);
            dueShown("main = case " + n + " of {" + alternatives + "};", "" + (n + 100));
            dueShown("main = case A" + many(" 0", n - 1) + " 8 of { A" + names + "-> d" + n + "};", "8");
            dueShown("main = 1" + many(" + 1", n) + ";", "" + (n + 1));
            dueShown("main = 7" + many(" * 1", n) + ";", "7");
        }
        dueShown("main = case A of { A -> 8 };", "8");
    }

    // "the TAPE's length, if one lacks"

    private static void lackingWords() {
        String all = "f x y = let a = 1 ; g b = \\ c d -> case a of { P e -> 2 * ( 3 + 4 ) ; 5 -> 6 < 7 ; h -> M 8 } in g ; main = f ;";
        dueProgram(all, 2);
        for (int at = 0; at < all.length(); at++) {
            if (all.charAt(at) == ' ') {
                dueWrong(all.substring(0, at), at);
                dueWrong(all.substring(0, at + 1), at + 1);
                dueWrong(all.substring(0, at) + "   ", at + 3);
                dueWrong(all.substring(0, at) + "\n", at + 1);
                dueWrong(all.substring(0, at + 1) + "$" + all.substring(at), at + 1);
            }
        }
        dueWrong("", 0);
        dueWrong(" ", 1);
        dueWrong("\n\n", 2);
    }

    // "the second one of two same NAMES of .."

    private static void twice() {
        dueWrongAtMark("f = 1; ~f = 2; main = 3;");
        dueWrongAtMark("f = 1; main = 3; g = 4; ~f x = 2;");
        dueWrongAtMark("main = 1; ~main = 2;");
        dueWrongAtMark("f x ~x = 1; main = 1;");
        dueWrongAtMark("f x y z ~x = 1; main = 1;");
        dueWrongAtMark("f x y z ~z = 1; main = 1;");
        dueWrongAtMark("f x y ~y x = 1; main = 1;");
        dueWrongAtMark("main = let a = 1; ~a = 2 in 3;");
        dueWrongAtMark("main = let a = 1; b = 2; c = 4; ~a x = 2 in 3;");
        dueWrongAtMark("main = let a x = 1; ~a x = 2 in 3;");
        dueWrongAtMark("main = let a = let a = 1; b = 2 in a; ~a = 2 in 3;");
        dueWrongAtMark("main = let a = let b = 1; ~b = 2 in a; a = 2 in 3;");
        dueWrongAtMark("main = let f a ~a = 1 in 3;");
        dueWrongAtMark("main = let g = 2; f a b c ~b = 1 in 3;");
        dueWrongAtMark("main = \\a ~a -> 1;");
        dueWrongAtMark("main = \\a b c ~a -> 1;");
        dueWrongAtMark("main = 1 + (\\a -> \\b ~b -> 1);");
        dueWrongAtMark("main = case 1 of { P a ~a -> 1 };");
        dueWrongAtMark("main = case 1 of { P a -> 1; Q a b c ~b -> 1 };");
        dueWrongAtMark("main = case 1 of { P a -> case 1 of { P b ~b -> 1 }; Q a a -> 1 };");
        // It is the name as a whole that counts.
        dueWrongAtMark("ab = 1; ~ab = 2; main = 3;");
        dueProgram("ab = 1; aB = 2; abc = 3; a = 4; main = 3;", 5);
    }

    /** The same NAME twice, but not of one and the same of these. */
    private static void notTwice() {
        dueShown("f f = f; main = f 3;", "3");
        dueShown("f x = x; g x = x + 1; main = f (g 3);", "4");
        dueShown("main = let main = 2 in main;", "2");
        dueShown("main = let f f = f; g f = f in g (f 6);", "6");
        dueShown("main = let a = 1 in let a = 2 in a;", "2");
        dueShown("main = let a = let a = 5 in a in a;", "5");
        dueShown("main = (\\a -> \\a -> a) 1 2;", "2");
        dueShown("f a = \\a -> case a of { a -> let a = 3; b a = a in b a }; main = f 1 2;", "3");
        dueShown("main = case P 1 2 of { P a b -> case P 3 4 of { P b a -> T a b } };", "T 4 3");
        dueShown("main = case 5 of { P a -> a; Q a -> a; a -> a };", "5");
        dueShown("main = P (let a = 1 in a) (let a = 2 in a) ((\\a -> a) 3) ((\\a -> a) 4);", "P 1 2 3 4");
        // MAKERS are no NAMES.
        dueShown("main = case P P P of { P a b -> T a b };", "T P P");
    }

    // "the word that opens a 61st of these in one another"

    private static void nesting() {
        dueDepth("(", ")", 0);
        dueDepth("1+(", ")", 2);
        dueDepth("F(", ")", 1);
        dueDepth("let x=1 in ", "", 0);
        dueDepth("let x=", " in 1", 0);
        dueDepth("let y=1;x=", ";z=2 in 1", 0);
        dueDepth("\\x->", "", 0);
        dueDepth("\\x y->", "", 0);
        dueDepth("case ", " of{x->1}", 0);
        dueDepth("case 1 of{x->", "}", 0);
        dueDepth("case 1 of{1->2;x->", ";3->4}", 0);
    }

    /** 59, 60, 61 and 62 in one another; in the opening piece what opens one stands at the place told. */
    private static void dueDepth(String opens, String closes, int place) {
        for (int n = 55; n <= 60; n++) {
            dueProgram("main=" + many(opens, n) + "1" + many(closes, n) + ";", 1);
        }
        for (int n = 61; n <= 65; n++) {
            dueWrong("main=" + many(opens, n) + "1" + many(closes, n) + ";", 5 + 60 * opens.length() + place);
        }
    }

    // "( to its ), let and \ to the end of their EXPRESSION, case to its }"

    private static void nestingEnds() {
        // 59 are open. What is closed makes room for the next one, at every place where one can stand behind it.
        dueInside(59, "(1)(1)(1)+(1)*(1)");
        dueInside(59, "F(1)(~(1))");
        dueInside(59, "F(~let x=1 in x)");
        dueInside(59, "F(1)(~\\x->x)");
        dueInside(59, "F(1)(~case 1 of{x->x})");
        // let: in its BINDS and in its EXPRESSION.
        dueInside(59, "let x=1;y=2 in 3");
        dueInside(59, "let x=~(1);y=2 in 3");
        dueInside(59, "let x=1;y=~(2)in 3");
        dueInside(59, "let x=1;y=2 in~(3)");
        dueInside(59, "let x=1 in 1+~(3)");
        dueInside(58, "let x=(1);y=(2)in(3)+(4)");
        dueInside(58, "let x=(1)(1)(~(1))in 1");
        dueInside(58, "let x=let z=1 in 2;y=(3)in(4)");
        dueInside(58, "let x=\\z->1;y=(3);u=\\z->2 in(4)");
        dueInside(58, "let x=case 1 of{z->1};y=(3)in case 1 of{z->2}");
        dueInside(58, "let x=\\z->~(1);y=2 in 3");
        dueInside(58, "let x=let z=1 in~(2);y=2 in 3");
        // \ to the end of its EXPRESSION.
        dueInside(59, "\\x->1");
        dueInside(59, "\\x->~(1)");
        dueInside(59, "\\x->1+2*~(1)");
        dueInside(58, "\\x->(1)+(2)");
        // case: what stands behind it, all ALTERNATIVES, up to its }.
        dueInside(59, "case 1 of{1->2;z->3}");
        dueInside(59, "case~(1)of{1->2;z->3}");
        dueInside(59, "case 1 of{1->~(2);z->3}");
        dueInside(59, "case 1 of{1->2;z->~(3)}");
        dueInside(58, "case(1)of{1->(2);z->(3)+(4)}");
        dueInside(58, "case let x=1 in 2 of{1->\\x->2;z->let y=1 in 2;u->case 1 of{x->1};v->(3)}");
        dueInside(58, "case case 1 of{x->1}of{x->case 1 of{x->1};y->(1)}");
        dueInside(58, "case 1 of{1->\\x->~(2);z->3}");
        // A DEFINITION begins anew.
        String deepest = many("(", 60) + "1" + many(")", 60) + ";";
        dueProgram("f=" + deepest + "main=" + deepest, 2);
        dueProgram("f=" + many("\\x->", 60) + "1;main=" + many("\\x->", 60) + "1;", 2);
        dueProgram("f=" + many("let x=1 in ", 60) + "1;main=" + many("case 1 of{x->", 60) + "1" + many("}", 60) + ";", 2);
    }

    /** Within so many ( the text is fine; or WRONG at its mark. */
    private static void dueInside(int around, String marked) {
        String text = "main=" + many("(", around) + marked + many(")", around) + ";";
        if (marked.indexOf('~') >= 0) {
            dueWrongAtMark(text);
        } else {
            dueProgram(text, 1);
        }
    }

    private static void nestingMixed() {
        String[] opens = {"(", "let x=1 in ", "\\x->", "case 1 of{x->", "let x=", "case "};
        String[] closes = {")", "", "", "}", " in 1", " of{x->1}"};
        for (int first = 0; first < opens.length; first++) {
            for (int n = 59; n <= 62; n++) {
                StringBuilder text = new StringBuilder("main=");
                StringBuilder behind = new StringBuilder(";");
                int place = -1;
                for (int i = 0; i < n; i++) {
                    int kind = (first + i) % opens.length;
                    place = i == 60 ? text.length() : place;
                    text.append(opens[kind]);
                    behind.insert(0, closes[kind]);
                }
                dueProgram(text + "1" + behind, n <= 60 ? 1 : -1 - place);
            }
        }
        // A word that can't stand there opens nothing, and is WRONG at the same place.
        dueInside(60, "1+~let x=1 in x");
        dueInside(60, "F~\\x->x");
        dueInside(60, "F ~case 1 of{x->x}");
    }

    // "at the first place (as it is read) of"

    private static void firstOfSeveral() {
        String deep = "(" + many("(", 60);
        dueWrongAtMark("f=1;~f=" + deep + "$;");
        dueWrongAtMark("f=1;main=" + deep.substring(1) + "~($;f=1;");
        dueWrongAtMark("f=~$;f=" + deep + "\\x x->1;");
        dueWrongAtMark("main=\\x ~x->$;");
        dueWrongAtMark("main=\\x ~$ x->1;");
        dueWrongAtMark("main=\\x ~x x->1;");
        dueWrongAtMark("main=let a=~1234567890;a=2 in 3;");
        dueWrongAtMark("main=let a=1;~a=1234567890 in 3;");
        dueWrongAtMark("main=case 1 of{P a~$->1;Q b b->2};");
        dueWrongAtMark("main=case 1 of{P a->1;Q b ~b->$};");
        // Behind all that the NAMES that are not bound, and the lack of main.
        dueWrongAtMark("f=x;g=y;~f=1;");
        dueWrongAtMark("f=x;main=y~");
        dueWrongAtMark("f=x;main z=\\y ~y->1;");
        dueWrongAtMark("main=x" + many("(", 60) + "~(1");
        dueWrongAtMark("f=~x;g=y;");
        dueWrongAtMark("f=1;main a=~b;");
    }

    // "Behind all that: at the first NAME (in the text) that is not bound"

    private static void notBound() {
        dueWrongAtMark("main=~x;");
        dueWrongAtMark("main=~x x;");
        dueWrongAtMark("main=~x y z;");
        dueWrongAtMark("main=K ~x y z;");
        dueWrongAtMark("main=1+~x*y;");
        dueWrongAtMark("main=~x+y*z;");
        dueWrongAtMark("main=1<~x;");
        dueWrongAtMark("f=1;main=f+~x+y;g=z;");
        dueWrongAtMark("f=~z;main=f+x+y;g=z;");
        dueWrongAtMark("main=let a=~x;b=y in z;");
        dueWrongAtMark("main=let a=1;b=a in ~z;");
        dueWrongAtMark("main=case ~x of{y->z};");
        dueWrongAtMark("main=case 1 of{y->~z;u->v};");
        dueWrongAtMark("main=(\\a->(\\b->(\\c->~d)));");
        dueWrongAtMark("main=F(G(H ~x)) y;");
        dueWrongAtMark("main=let f a=~b in c;");
    }

    // "then at the TAPE's length, if there is no DEFINITION main, or it has PARAMETERS"

    private static void mainLacks() {
        dueWrong("f=1;", 4);
        dueWrong("f=1; \n ", 7);
        dueWrong("main a=1;", 9);
        dueWrong("main a=1;  ", 11);
        dueWrong("main a b c=1;f=2;", 17);
        dueWrong("main main=main;", 15);
        dueWrong("f main=main;", 12);
        dueWrong("f=let main=1 in main;", 21);
        dueWrong("f=\\main->main;", 14);
        dueWrong("mai=1;mainn=1;maiN=1;main1=1;", 29);
        dueProgram("main=1;", 1);
        dueProgram("f=1;main=1;g=1;", 3);
        dueProgram("main=\\a->1;", 1);
        dueShown("f=main;main=5;", "5");
    }

    // "BOUND is a NAME by the innermost of"

    private static void boundByTheInnermost() {
        String[] binders = {"((\\x->~)V)", "(let x=V in ~)", "(case V of{x->~})", "(case P V of{P x->~})", "(let f x=~ in f V)"};
        for (int outer = 0; outer < binders.length; outer++) {
            String around = binders[outer].replace("V", " 1");
            dueShown("x=0;main=" + around.replace("~", "x") + ";", "1");
            dueShown("x=0;g x=" + around.replace("~", "x") + ";main=g 5;", "1");
            for (String inner : binders) {
                String within = inner.replace("V", " 2").replace("~", "x");
                dueShown("x=0;main=" + around.replace("~", within) + ";", "2");
                dueShown("x=0;main=" + around.replace("~", "T" + within + "x") + ";", "T 2 1");
                dueShown("x=0;g x=T" + within + " x" + within + ";main=g 1;", "T 2 1 2");
            }
        }
        dueShown("x=0;g x=x;main=T x(g 1)x;", "T 0 1 0");
    }

    /** Where each binder begins and ends. */
    private static void boundFromTo() {
        dueWrongAtMark("f x=x;main=~x;");
        dueWrongAtMark("main=F(\\x->x)~x;");
        dueWrongAtMark("main=F(let x=1 in x)~x;");
        dueShown("main=let x=y;y=3 in x;", "3");
        dueShown("main=let x=C 1 x in case x of{C a b->case b of{C c d->c}};", "1");
        dueWrongAtMark("main=case ~x of{x->1};");
        dueWrongAtMark("main=case 1 of{x->1;y->~x};");
        dueWrongAtMark("main=case 1 of{y->~x;x->1};");
        dueWrongAtMark("main=case 1 of{P x->1;P y->~x};");
        dueWrongAtMark("main=let f x=1;g=~x in 1;");
        dueWrongAtMark("main=let f x=1 in ~x;");
        dueWrongAtMark("main=let f=\\x->1;g=~x in 1;");
        dueWrongAtMark("main=let a=let x=1 in x;b=~x in 1;");
        dueWrongAtMark("main=case \\x->1 of{y->~x};");
        dueWrongAtMark("main=case let x=1 in 1 of{y->~x};");
        // The value of x around it, where the inner x is not there yet or no more.
        dueShown("x=0;main=case x of{x->T x};", "T 0");
        dueShown("x=0;main=(\\x->T(case x+1 of{x->x})x)5;", "T 6 5");
        dueShown("x=0;main=let f x=x+1;g=x in f g;", "1");
        dueShown("x=0;main=let a=let x=7 in x;b=x in T a b;", "T 7 0");
        dueShown("x=0;main=case 1 of{2->8;y->T((\\x->x)3)x};", "T 3 0");
    }

    // "FREE in an EXPRESSION are the NAMES in it that something around it binds, DEFINITIONS aside (each once)."

    private static void free() {
        dueFree("1", "");
        dueFree("z", "");
        dueFree("d", "");
        dueFree("f", "");
        dueFree("a", "a");
        dueFree("c", "c");
        dueFree("a+a*a", "a");
        dueFree("a b", "ab");
        dueFree("b<c", "bc");
        dueFree("K a b a b(a(b a))", "ab");
        dueFree("a b c", "abc");
        dueFree("a b c z d f", "abc");
        dueFree("let a=1 in a", "");
        dueFree("let a=b in a", "b");
        dueFree("let u=a;a=1 in b", "b");
        dueFree("let u=v;v=u c in b u", "bc");
        dueFree("let u b=b c in u", "c");
        dueFree("\\a->a", "");
        dueFree("\\a->a b c", "bc");
        dueFree("\\z->\\z->z c", "c");
        dueFree("case a of{a->a}", "a");
        dueFree("case 1 of{a->a}", "");
        dueFree("case 1 of{P a b->a b;Q b->a}", "a");
        dueFree("case 1 of{P a b->c;Q c->b}", "bc");
        // The same name bound within by another, ahead of it, behind it, or on the other side of a sign.
        dueFree("(\\a->a)1", "");
        dueFree("(\\a->a)a", "a");
        dueFree("(\\a->a)b", "b");
        dueFree("(let a=1 in a)+b", "b");
        dueFree("(let a=1 in a)+a", "a");
        dueFree("b+(let a=1 in a)", "b");
        dueFree("(\\a->a)1*(\\b->b)2-(case c of{c->c})", "c");
        dueFree("(case 1 of{a->a})==(case 1 of{b->b})", "");
        dueFree("K(\\a->a)b", "b");
        dueFree("K a(\\a->a)a(let a=b in a)", "ab");
        dueFree("(let u=1 in u)(\\v->v)(case 1 of{w->w})", "");
    }

    /** The same in a FUNCTION, a DELAY, a CHOICE, a LEFT, and of EVALUATE. A DATUM of 3, 4 and 5 cells are a, b and c. */
    private static void dueFree(String body, String names) {
        int words = names.length();
        int cells = (names.contains("a") ? 3 : 0) + (names.contains("b") ? 4 : 0) + (names.contains("c") ? 5 : 0);
        due("a FUNCTION of [" + body + "]", evaluated("\\z->" + body, 6).count(1), 12 + 2 + words);
        due("a DELAY of [" + body + "]", evaluated("let y=" + body + " in 1", 6).count(1), 12 + 2 + words);
        due("a CHOICE with [" + body + "]", evaluated("case 1 of{u->" + body + "}", 6).count(3), 5 + 2 + words);
        due("a LEFT with [" + body + "]", evaluated("1+(" + body + ")", 6).count(3), 5 + 2 + words);
        due("EVALUATE [" + body + "]", evaluated(body, 5).count(2), cells);
    }

    private static LazyHouse evaluated(String body, int steps) {
        LazyHouse house = begun("d=1;z=1;f a b c=" + body + ";main=f(A 1)(B 1 2)(C 1 2 3);", 100);
        due("steps of [" + body + "]", house.step(steps), 0);
        return house;
    }
}
