/** The edges of Terms 1 and of promises 1 to 7: texts of classes, their faults, and what is told of them. */
final class TextEdges {
    private static final int NONE = BeeRegister.NONE;
    private static final int BLANKS = 0x20202020;
    private static final String[] KEYWORDS = ("class of way one joined own to list by must owned unique whole small "
            + "flag hook insert change where or and not empty").split(" ");

    private TextEdges() {
    }

    static void run() {
        bytes();
        words();
        numbers();
        tokens();
        names();
        grammar();
        origins();
        manyMembers();
        manyClasses();
        unlike();
        hooks();
        places();
        firstFault();
        leads();
        newObject();
        feeding();
        ending();
        mapping();
        faults();
        looking();
        members();
    }

    private static int feedBlanks(BeeRegister x) {
        return x.feed(BLANKS, BLANKS, BLANKS, BLANKS, BLANKS);
    }

    /** Each of the 256 bytes between { and }: a fault of 1 is at the byte, one of 2 at it or behind it. */
    private static void bytes() {
        Sentences.term(1, "Blanks: 9, 10, 13, 32.");
        Kit.accepted("class\tA\n{\r} ", 1);
        for (int c = 0; c < 256; c++) {
            String text = "class A {" + (char) c + "}";
            if (c == 9 || c == 10 || c == 13 || c == 32) {
                Kit.accepted(text, 1);
            }
        }
        Sentences.term(1, "SIGNS { } ( ) : ; , . = < > + -.");
        for (int c = 33; c < 256; c++) {
            boolean sign = "{}():;,.=<>+-".indexOf(c) >= 0;
            boolean word = c >= 'a' && c <= 'z' || c >= 'A' && c <= 'Z';
            boolean digit = c >= '0' && c <= '9';
            String text = "class A {" + (char) c + "}";
            Kit.faulty(text, sign || word || digit ? 2 : 1, word || c == '}' ? 10 : 9);
        }
        Sentences.term(1, "1 a byte, or a TOKEN, that is none");
        for (int c : new int[] {0, 8, 11, 12, 14, 31, 127, 128, 160, 255}) {
            Kit.faulty((char) c + "class A { }", 1, 0);
            Kit.faulty("class A { }" + (char) c, 1, 11);
        }
    }

    private static void words() {
        Sentences.term(1, "WORDS: letters, then letters and digits, 8 signs at most (a longer one: FAULT 1)");
        Kit.accepted("class A { }", 1);
        Kit.accepted("class Abcdefgh { }", 1);
        Kit.accepted("class A2345678 { }", 1);
        Kit.refused("class ^Abcdefghi { }", 1);
        Kit.refused("class ^A23456789 { }", 1);
        Kit.refused("class A { ^whole1234 : whole ; }", 1);
        Kit.refused("^" + "a".repeat(3000), 1);
        Kit.accepted("class Abcdefgh { } class Abcdefgi { }", 2);
        Kit.accepted("class Bbcdefgh { } class Abcdefgh { }", 2);
        Kit.refused("class Abcdefgh { } class ^Abcdefgh { }", 3);
        Kit.refused("class ^1A { }", 2);
    }

    private static void numbers() {
        Sentences.term(1, "NUMBERS: digits, 6 at most (a longer one: 1)");
        Kit.refused("class A { n : whole ; hook insert n + ^1000000 ; }", 1);
        Kit.refused("class A { n : whole ; hook insert n + ^0000001 ; }", 1);
        Kit.refused("^" + "1".repeat(3000), 1);
        BeeRegister x = Kit.mapped("class A { n : whole ; m : whole ; hook insert n + 999999 ; "
                + "hook insert m + 000007 ; hook insert m + 0 ; }");
        x.unit();
        x.make(0, 0);
        x.flush(0);
        Kit.due("a number of six digits", x.value(0, 0), 999999);
        Kit.due("numbers that begin with 0", x.value(0, 1), 7);
    }

    private static void tokens() {
        Sentences.term(1, "TOKENS, as long as they go");
        Kit.accepted("class A{n:whole;e:(p,q);hook insert n+1;}class B of A{}", 2);
        Kit.refused("^classA { }", 2);
        Kit.refused("class A { n : whole ; hook insert n+1^x ; }", 2);
        Kit.refused("class A { n : ^wholeunique ; }", 1);
        Kit.refused("class A { n : ^whole1 ; }", 2);
        Kit.refused("class A { n : whole ; hook insert n + 1 ^2 ; }", 2);
        Sentences.term(1, "A text of classes: {class}.");
        Kit.accepted("", 0);
        Kit.accepted(" ".repeat(3000), 0);
        Kit.refused("^A", 2);
        Kit.refused("class A { } ^;", 2);
        for (String sign : new String[] {"{", ")", "+", "?"}) {
            Kit.refused("^" + sign.repeat(3000), sign.equals("?") ? 1 : 2);
            Kit.refused("class A ^" + ("}" + sign).repeat(1496), 2);
        }
    }

    private static void names() {
        Sentences.term(1, "NAMES are WORDS but class of way one joined own to list by must owned unique whole small "
                + "flag hook insert change where or and not empty.");
        for (String word : KEYWORDS) {
            Kit.refused("class ^" + word + " { }", 2);
            Kit.refused("class A { } class B of ^" + word + " { }", 2);
            Kit.refused("class A { e : ( p , ^" + word + " ) ; }", 2);
            Kit.refused("class A { a : to ^" + word + " ; }", 2);
            Kit.refused("class A { a : list ^" + word + " by a ; }", 2);
            Kit.refused("class A { a : list A by ^" + word + " ; }", 2);
            Kit.refused("class A { n : whole ; hook insert ^" + word + " + 1 ; }", 2);
            String other = word.substring(0, 1).toUpperCase() + word.substring(1);
            Kit.accepted("class " + other + " { " + word + "1 : ( " + word + "x ) ; }", 1);
        }
        for (String word : "class own whole empty".split(" ")) {
            Kit.refused("class A { ^" + word + " : whole ; }", 2);
        }
    }

    private static void grammar() {
        Sentences.term(1, "class = \"class\" NAME [\"of\" CLASS] [\"way\" (\"one\" | \"joined\" | \"own\")] "
                + "\"{\" {member | hook} \"}\".");
        Kit.accepted("class A way one { } class B way joined { n : whole ; hook insert n + 1 ; m : flag ; } "
                + "class C way own { } class D of A { } class E { }", 5);
        Kit.refused("class A way ^A { }", 2);
        Kit.refused("class A ^}", 2);
        Kit.refused("class A { ^{ }", 2);
        Kit.refused("class A { } ^}", 2);
        Kit.refused("class A { n : whole ; ^class B { }", 2);
        Sentences.term(1, "member = NAME \":\" (value [\"unique\"] | \"to\" NAME [\"must\"] [\"owned\"] | "
                + "\"list\" NAME \"by\" NAME [\"owned\"]) \";\".");
        Kit.accepted("class A { a : to A ; b : to A must ; c : to A owned ; d : to A must owned ; "
                + "l : list A by a ; k : list A by a owned ; u : flag unique ; }", 1);
        Kit.refused("class A { a : whole ^must ; }", 2);
        Kit.refused("class A { a : whole ^owned ; }", 2);
        Kit.refused("class A { a : to A ^unique ; }", 2);
        Kit.refused("class A { a : to A owned ^must ; }", 2);
        Kit.refused("class A { a : to A must ^must ; }", 2);
        Kit.refused("class A { a : to A ; l : list A ^owned ; }", 2);
        Kit.refused("class A { a : to A ; l : list A by a ^must ; }", 2);
        Kit.refused("class A { a : ^; }", 2);
        Kit.refused("class A { a : to ^; }", 2);
        Kit.refused("class A { a : list ^; }", 2);
        Kit.refused("class A { a : list A ^; }", 2);
        Kit.refused("class A { a : list A by ^; }", 2);
        Kit.refused("class A { a ^}", 2);
        Kit.refused("class A { a : ^}", 2);
        Kit.refused("class A { a : whole ^}", 2);
        Kit.refused("class A { ^; }", 2);
        Sentences.term(1, "value = \"whole\" | \"small\" | \"flag\" | \"(\" NAME {\",\" NAME} \")\".");
        Kit.accepted("class A { a : whole ; b : small ; c : flag ; d : ( p ) ; e : ( p , q , r ) unique ; }", 1);
        Kit.refused("class A { a : ( ^) ; }", 2);
        Kit.refused("class A { a : ( p , ^) ; }", 2);
        Kit.refused("class A { a : ( p ^q ) ; }", 2);
        Kit.refused("class A { a : ( ^, p ) ; }", 2);
        manyNames();
        Sentences.term(1, "hook = \"hook\" (\"insert\" | \"change\") NAME \"+\" NUMBER \";\".");
        Kit.accepted("class A { n : whole ; hook insert n + 0 ; hook change n + 0 ; }", 1);
        Kit.refused("class A { n : whole ; hook ^n + 1 ; }", 2);
        Kit.refused("class A { n : whole ; hook insert n ^- 1 ; }", 2);
        Kit.refused("class A { n : whole ; hook insert n + ^- 1 ; }", 2);
        for (String part : "hook,hook insert,hook insert n,hook insert n +,hook insert n + 1".split(",")) {
            Kit.refused("class A { n : whole ; " + part + " ^}", 2);
            Kit.refused("class A { n : whole ; " + part + " ^hook insert n + 1 ; }", 2);
        }
    }

    /** A whole tape of names of one letter. */
    private static void manyNames() {
        StringBuilder letters = new StringBuilder("a");
        for (char c = 'b'; c <= 'z'; c++) {
            letters.append(',').append(c);
        }
        String names = letters + "," + letters.toString().toUpperCase();
        StringBuilder text = new StringBuilder("class A{");
        for (int m = 0; m < 26; m++) {
            text.append(m == 16 ? "}class B{" : "").append('m').append(m).append(":(").append(names).append(");");
        }
        BeeRegister x = new BeeRegister();
        Kit.due("with a fault behind them", Kit.map(x, text + "}?"), NONE);
        Kit.due("without", Kit.map(x, text + "}"), 2);
        Kit.due("names", x.member(0, 15, 1), 52);
        Kit.due("names", x.member(1, 9, 1), 52);
        x.unit();
        x.make(0, 1);
        Kit.due("the last name", x.put(0, 9, 51), true);
        Kit.due("no name", x.put(0, 9, 52), false);
        Kit.told(x, 0, "B where m25 = Z and m24 = a", 1);
    }

    private static void origins() {
        Sentences.term(1, "\"of\" names a class told ahead (of which this one is an HEIR; 3 else)");
        Kit.accepted("class A { } class B of A { } class C of B { }", 3);
        Kit.refused("class A of ^B { } class B { }", 3);
        Kit.refused("class A of ^A { }", 3);
        Kit.refused("class A { a : flag ; } class B of ^a { }", 3);
        Sentences.term(1, "the \"way\" stands at a ROOT alone, a class without \"of\" (2 else)");
        Kit.refused("class A { } class B of A ^way one { }", 2);
        Kit.refused("class A way own { } class B of A ^way own { }", 2);
        Kit.refused("class A way own ^of A { }", 2);
        Kit.refused("class A way ^two { }", 2);
        Kit.refused("class A way ^{ }", 2);
        Sentences.term(1, "HEIRS have that of their ROOT, \"one\" if it tells none");
        BeeRegister x = Kit.mapped("class A way own { } class B way joined { } class C of A { } class D of C { } "
                + "class E of B { } class F { } class G of F { } class H way one { }");
        int[] ways = {2, 1, 2, 2, 1, 0, 0, 0};
        for (int c = 0; c < ways.length; c++) {
            Kit.due("way of class " + c, x.look(c, 2), ways[c]);
        }
        Sentences.term(1, "A class IS itself, and what the class behind its \"of\" IS");
        x = Kit.mapped("class A { } class B of A { } class C of B { } class D of A { } "
                + "class E { a : to A ; b : to B ; }");
        x.unit();
        for (int c = 0; c < 5; c++) {
            x.make(0, c);
        }
        for (int c = 0; c < 5; c++) {
            Kit.due("class " + c + " is A", x.link(4, 0, c), c < 4);
            Kit.due("class " + c + " is B", x.link(4, 1, c), c == 1 || c == 2);
        }
        StringBuilder text = new StringBuilder("class C0 { a : to C0 ; b : to C1 ; } ");
        for (int c = 1; c < 12; c++) {
            text.append("class C").append(c).append(" of C").append(c - 1).append(" { } ");
        }
        x = Kit.mapped(text.toString());
        x.unit();
        x.make(0, 11);
        x.make(0, 0);
        Kit.due("the last of twelve is the first", x.link(0, 0, 0), true);
        Kit.due("and the second", x.link(0, 1, 0), true);
        Kit.due("the first is not the second", x.link(0, 1, 1), false);
        Kit.due("find", x.find(0, 0, 1), 0);
    }

    private static String flags(String name, int many) {
        StringBuilder text = new StringBuilder();
        for (int i = 0; i < many; i++) {
            text.append(name).append(i).append(":flag;");
        }
        return text.toString();
    }

    private static void manyMembers() {
        Sentences.term(1, "A class has the members of that one, then its own ones, 16 at most in all (4, at the NAME)");
        Kit.accepted("class A {" + flags("m", 16) + "}", 1);
        Kit.refused("class A {" + flags("m", 16) + "^n:flag;}", 4);
        Kit.refused("class A {" + flags("m", 16) + "^n ?", 4);
        Kit.accepted("class A {" + flags("m", 16) + "} class B of A { }", 2);
        Kit.refused("class A {" + flags("m", 16) + "} class B of A { ^n:flag;}", 4);
        Kit.accepted("class A {" + flags("m", 9) + "} class B of A {" + flags("n", 7) + "}", 2);
        Kit.refused("class A {" + flags("m", 9) + "} class B of A {" + flags("n", 7) + "^x:flag;}", 4);
        Kit.accepted("class A {" + flags("m", 9) + "} class B of A {" + flags("n", 7) + "} class C of A {"
                + flags("n", 7) + "}", 3);
        BeeRegister x = Kit.mapped("class A { a : whole ; b : small ; } class B of A { c : flag ; }");
        for (int m = 0; m < 3; m++) {
            Kit.due("member " + m, x.member(1, m, 0), m);
        }
        x = Kit.mapped("class A {" + flags("m", 16) + "}");
        Kit.due("the last member", x.member(0, 15, 0), 2);
        Kit.due("none behind it", x.member(0, 16, 0), NONE);
        x.unit();
        x.make(0, 0);
        Kit.due("put", x.put(0, 15, 1), true);
        Kit.due("put behind it", x.put(0, 16, 1), false);
        Kit.due("value behind it", x.value(0, 16), Long.MIN_VALUE);
        Kit.told(x, 0, "A where m15 = 1", 1);
        Kit.due("from outside", x.other(0, 1, 16, 0), false);
    }

    private static String classes(int many) {
        StringBuilder text = new StringBuilder();
        for (int i = 0; i < many; i++) {
            text.append("class C").append(i).append(i % 2 == 0 ? " { } " : " of C" + (i - 1) + " { } ");
        }
        return text.toString();
    }

    private static void manyClasses() {
        Sentences.term(1, "12 classes at most (4, at the NAME)");
        Kit.accepted(classes(12), 12);
        Kit.refused(classes(12) + "class ^D { }", 4);
        Kit.refused(classes(12) + "class ^D ?", 4);
        Kit.refused(classes(12) + "class ^{ }", 2);
        StringBuilder text = new StringBuilder();
        for (int c = 0; c < 12; c++) {
            text.append("class C").append(c).append('{').append(flags("m", 16)).append('}');
        }
        BeeRegister x = new BeeRegister();
        Kit.due("with a fault behind them", Kit.map(x, text + "?"), NONE);
        Kit.due("without", Kit.map(x, text.toString()), 12);
        Kit.due("members", x.look(11, 3), 16);
    }

    private static void unlike() {
        Sentences.term(1, "NAMES of classes are unlike, so are those of a class's members, "
                + "names behind \"(\" of one member (3, at the second one)");
        Kit.refused("class A { } class B { } class ^A { }", 3);
        Kit.refused("class A { a : whole ; b : flag ; ^a : flag ; }", 3);
        Kit.refused("class A { a : whole ; } class B of A { } class C of B { ^a : flag ; }", 3);
        Kit.refused("class A { e : ( p , q , ^p ) ; }", 3);
        Kit.refused("class A { e : ( p , ^p , p ) ; }", 3);
        Kit.accepted("class A { A : ( A , a ) ; a : ( A , a ) ; } class B { A : flag ; }", 2);
        Kit.accepted("class A { } class B of A { a : whole ; } class C of A { a : flag ; }", 3);
    }

    private static void hooks() {
        Sentences.term(1, "A hook's NAME is a \"whole\" member of the class, told ahead (3)");
        Kit.refused("class A { hook insert ^n + 1 ; n : whole ; }", 3);
        for (String value : new String[] {"small", "flag", "( p )", "to A"}) {
            Kit.refused("class A { n : " + value + " ; hook change ^n + 1 ; }", 3);
        }
        Kit.refused("class A { a : to A ; n : list A by a ; hook change ^n + 1 ; }", 3);
        Kit.refused("class A { n : whole ; } class B { hook insert ^n + 1 ; }", 3);
        Kit.refused("class A { } class B of A { n : whole ; } class C of A { hook insert ^n + 1 ; }", 3);
        Kit.accepted("class A { n : whole unique ; } class B of A { } class C of B { hook insert n + 1 ; }", 3);
        Sentences.term(1, "4 hooks of a class's own at most (4, at \"hook\")");
        String four = "hook insert n + 1 ; hook change n + 1 ; hook insert n + 1 ; hook change n + 1 ; ";
        Kit.accepted("class A { n : whole ; " + four + "} class B of A { " + four + "} class C of B { " + four + "}",
                3);
        BeeRegister x = Kit.mapped("class A { n : whole ; m : whole ; " + four + "}");
        x.unit();
        x.make(0, 0);
        x.flush(0);
        Kit.due("two of them", x.value(0, 0), 2);
        x.put(0, 1, 1);
        x.flush(0);
        Kit.due("the other two", x.value(0, 0), 4);
        Kit.refused("class A { n : whole ; " + four + "^hook insert n + 1 ; }", 4);
        Kit.refused("class A { n : whole ; " + four + "^hook ?", 4);
        Kit.refused("class A { n : whole ; " + four + "} class B of A { " + four + "^hook insert n + 1 ; }", 4);
    }

    private static void places() {
        Sentences.term(1, "FAULTS with their places (bytes ahead of the TOKEN; the text's length at its end)");
        Kit.refused("^?", 1);
        Kit.refused("  ^?", 1);
        Kit.refused("class^", 2);
        Kit.refused("class   ^", 2);
        Kit.refused("class A { n : whole ;^", 2);
        Kit.refused(" ".repeat(2995) + "class^", 2);
        Kit.refused(" ".repeat(2999) + "^A", 2);
    }

    private static void firstFault() {
        Sentences.term(1, "the first TOKEN with one, of that the least");
        Kit.refused("class A ^B ? { }", 2);
        Kit.refused("class A ^? B { }", 1);
        Kit.refused("class A { a : whole ; ^a ? }", 3);
        Kit.refused("class A { a : to B ; ^? }", 1);
        Kit.refused("class ^Abcdefghi ? { }", 1);
        Kit.refused("class A {" + flags("m", 16) + "^m15:flag;}", 3);
        Kit.refused(classes(12) + "class ^C11 { }", 3);
        Kit.refused(classes(12) + "class ^class { }", 2);
        Kit.refused(classes(12) + "class ^Abcdefghi { }", 1);
        Kit.refused("class A {" + flags("m", 16) + "^whole:flag;}", 2);
        Sentences.term(1, "2 it can't stand there; 3; 4.");
        Kit.refused("class A { } ^class2 B { }", 2);
        Kit.refused("class A { } class ^A { }", 3);
        Kit.refused(classes(12) + "class ^C12 { }", 4);
    }

    private static void leads() {
        Sentences.term(1, "Then, if there is none, the first TOKEN with 5");
        Kit.refused("class A { a : to ^B ; b : to C ; }", 5);
        Kit.refused("class A { a : to A ; l : list A by ^x ; b : to C ; }", 5);
        Kit.refused("class A { a : to B ; } class ^A { }", 3);
        Kit.refused("class A { a : to B ; ^", 2);
        Kit.refused("class A { l : list A by ^b ; b : to C ; }", 5);
        Sentences.term(1, "a NAME behind \"to\", \"list\" that is no class");
        Kit.refused("class A { a : to ^B ; }", 5);
        Kit.refused("class A { a : to ^a ; }", 5);
        Kit.refused("class A { l : list ^B by a ; }", 5);
        Kit.accepted("class A { a : to B ; l : list B by b ; } class B { b : to A ; }", 2);
        Sentences.term(1, "behind \"by\" one that is no reference (\"to\") of that class "
                + "to a class that this one IS, or is");
        Kit.refused("class A { l : list B by ^x ; } class B { b : to A ; }", 5);
        Kit.refused("class A { l : list B by ^n ; } class B { n : whole ; }", 5);
        Kit.refused("class A { a : to A ; l : list A by a ; k : list A by ^l ; }", 5);
        Kit.refused("class A { a : to A ; l : list B by ^a ; } class B { b : to A ; }", 5);
        Kit.refused("class A { l : list B by ^b ; } class B { b : to B ; }", 5);
        Kit.refused("class A { l : list B by ^b ; } class B { b : to H ; } class H of A { }", 5);
        Kit.accepted("class A { } class H of A { l : list B by b ; } class B { b : to A ; }", 3);
        Kit.accepted("class A { l : list H by b ; } class B { b : to A ; } class H of B { }", 3);
        Kit.refused("class A { l : list B by ^b ; } class B { } class H of B { b : to A ; }", 5);
    }

    private static void newObject() {
        Sentences.promise(1, "No classes, no rows, no UNITS, an empty TAPE.");
        BeeRegister x = new BeeRegister();
        Kit.due("classes", x.count(0), 0);
        Kit.due("a class", x.look(0, 1), NONE);
        Kit.due("rows", x.count(2), 0);
        Kit.due("a row", x.other(0, 1, 0, 0), false);
        Kit.due("units", x.count(1), 0);
        for (int unit = 0; unit < 4; unit++) {
            Kit.due("flush(" + unit + ")", x.flush(unit), NONE);
        }
        Kit.due("end(1)", x.end(1), NONE);
        Kit.due("end(0)", x.end(0), 0);
        Kit.due("map()", x.map(), 0);
    }

    private static void feeding() {
        Sentences.promise(2, "Twenty bytes come behind the TAPE, four of each number, the highest first: "
                + "how many it has");
        BeeRegister x = new BeeRegister();
        Kit.due("feed", x.feed(0x636c6173, 0x73204120, 0x7b206e3a, 0x77686f6c, 0x653b206d), 20);
        Kit.due("feed", x.feed(0x3a736d61, 0x6c6c3b20, 0x7d202020, 0x20202020, 0x202020ff), 40);
        Kit.due("map()", x.map(), NONE);
        Kit.due("the last byte", x.fault(0), 1);
        Kit.due("its place", x.fault(1), 39);
        x.feed(0x636c6173, 0x73204120, 0x7b206e3a, 0x77686f6c, 0x653b206d);
        x.feed(0x3a736d61, 0x6c6c3b20, 0x7d202020, 0x20202020, 0x20202020);
        Kit.due("map()", x.map(), 1);
        Kit.due("members", x.look(0, 3), 2);
        Kit.due("the second one", x.member(0, 1, 0), 1);

        Sentences.promise(2, "NONE, and none come, if it would have more than 3000.");
        for (int i = 1; i <= 149; i++) {
            feedBlanks(x);
        }
        Kit.due("feed on 2980", feedBlanks(x), 3000);
        Kit.due("feed on 3000", x.feed(-1, -1, -1, -1, -1), NONE);
        Kit.due("end(3001)", x.end(3001), NONE);
        Kit.due("end(2981)", x.end(2981), 2981);
        Kit.due("feed on 2981", x.feed(-1, -1, -1, -1, -1), NONE);
        Kit.due("end(2982)", x.end(2982), NONE);
        Kit.due("map() of 2981 blanks", x.map(), 0);
    }

    private static void ending() {
        Sentences.promise(3, "The TAPE has its first n bytes: n");
        BeeRegister x = new BeeRegister();
        Kit.tape(x, "class A { }class B { }");
        Kit.due("all of it", x.end(22), 22);
        Kit.due("end(11)", x.end(11), 11);
        Kit.due("end(12)", x.end(12), NONE);
        Kit.due("feed behind them", feedBlanks(x), 31);
        Kit.due("map()", x.map(), 1);
        Kit.tape(x, "class A { }");
        Kit.due("end(0)", x.end(0), 0);
        Kit.due("map()", x.map(), 0);

        Sentences.promise(3, "NONE, doing nothing, if it has not so many, or n is below 0.");
        Kit.tape(x, "class A { }");
        for (int n : new int[] {12, 3000, Integer.MAX_VALUE, -1, Integer.MIN_VALUE}) {
            Kit.due("end(" + n + ")", x.end(n), NONE);
        }
        Kit.due("feed", feedBlanks(x), 31);
        Kit.due("map()", x.map(), 1);
    }

    private static BeeRegister used() {
        BeeRegister x = Kit.mapped("class A { n : whole ; } class B of A { }");
        x.unit();
        x.unit();
        x.make(0, 1);
        x.flush(0);
        Kit.tape(x, "A");
        x.ask(0);
        return x;
    }

    private static void mapping() {
        Sentences.promise(4, "The TAPE, which is empty then, is read as a text of classes: how many");
        BeeRegister x = new BeeRegister();
        Kit.due("twelve", Kit.map(x, classes(12)), 12);
        Kit.due("the tape", x.end(1), NONE);
        Kit.due("none", x.map(), 0);
        Kit.due("a fault", Kit.map(x, "class"), NONE);
        Kit.due("the tape", x.end(1), NONE);

        String full = "class A { n : whole unique ; a : to A must owned ; e : ( p , q ) ; l : list A by a owned ; "
                + "hook insert n + 1 ; hook insert n + 2 ; hook insert n + 3 ; hook insert n + 4 ; }";
        Kit.due("again", Kit.map(x, full), 1);
        Kit.due("a fault", Kit.map(x, full + "?"), NONE);
        Kit.due("a fault", Kit.map(x, full + "class B { f : flag ; ?"), NONE);
        Kit.due("again", Kit.map(x, "class A { a : to A ; e : ( r ) ; f : flag ; n : whole ; }"), 1);
        int[][] told = {{4, 0, 0, NONE}, {3, 1, 0, NONE}, {2, 0, 0, NONE}, {0, 0, 0, NONE}};
        for (int m = 0; m < 4; m++) {
            for (int what = 0; what < 4; what++) {
                Kit.due("nothing of the text ahead is left", x.member(0, m, what), told[m][what]);
            }
        }
        x.unit();
        x.make(0, 0);
        Kit.told(x, 0, "A where n = 0 and e = r", 1);

        Sentences.promise(4, "there are no rows, no UNITS, KEYS begin anew.");
        x = used();
        Kit.due("map()", Kit.map(x, "class A { }"), 1);
        Kit.due("rows", x.count(2), 0);
        Kit.due("a row", x.cell(0, 1, 0), Long.MIN_VALUE);
        Kit.due("units", x.count(1), 0);
        Kit.due("an object", x.object(0, 0), NONE);
        Kit.due("unit()", x.unit(), 0);
        Kit.due("an object", x.object(0, 0), NONE);
        Kit.due("make", x.make(0, 0), 0);
        Kit.due("its key", x.object(0, 1), 1);

        Sentences.promise(4, "NONE with a FAULT (all else is as it was).");
        x = used();
        Kit.due("map()", Kit.map(x, "class C { m : flag ; } class D { } class E { a : to F ; }"), NONE);
        Kit.due("classes", x.count(0), 2);
        Kit.due("members", x.look(0, 3), 1);
        Kit.due("the first one", x.member(0, 0, 0), 0);
        Kit.due("rows", x.count(2), 1);
        Kit.due("a row", x.cell(0, 1, 0), 1);
        Kit.due("units", x.count(1), 2);
        Kit.due("an object", x.object(0, 0), 1);
        Kit.due("found", x.found(0), 1);
        x.make(1, 0);
        Kit.due("keys go on", x.object(100, 1), 2);
        Kit.told(x, 0, "B where n = 0", 1);
    }

    private static void faults() {
        Sentences.promise(5, "Of the latest map() or ask() of a UNIT that there is");
        BeeRegister x = used();
        Kit.refusedQuestion(x, 0, "A ^?", 1);
        Kit.map(x, "class");
        Kit.due("of map()", x.fault(0), 2);
        Kit.tape(x, "A ?");
        x.ask(2);
        Kit.due("not of a unit that there is not", x.fault(0), 2);
        Kit.due("its place", x.fault(1), 5);
        x.ask(1);
        Kit.due("of ask()", x.fault(0), 1);
        Kit.due("its place", x.fault(1), 2);

        Sentences.promise(5, "what 0: its FAULT (0 without one, and ahead of any), 1: its place (NONE without).");
        x = new BeeRegister();
        Kit.due("ahead of any", x.fault(0), 0);
        Kit.due("ahead of any", x.fault(1), NONE);
        Kit.map(x, "?");
        Kit.due("a fault at 0", x.fault(0), 1);
        Kit.due("its place", x.fault(1), 0);
        Kit.map(x, "class A { }");
        Kit.due("without one", x.fault(0), 0);
        Kit.due("without one", x.fault(1), NONE);
        x.unit();
        Kit.refusedQuestion(x, 0, "A ^B", 2);
        Kit.told(x, 0, "A");
        Kit.due("without one", x.fault(1), NONE);

        Sentences.promise(5, "NONE for another what.");
        Kit.map(x, "?");
        for (int what : new int[] {2, -1, Integer.MAX_VALUE, Integer.MIN_VALUE}) {
            Kit.due("fault(" + what + ")", x.fault(what), NONE);
        }
    }

    private static void looking() {
        Sentences.promise(6, "NONE if there is none such.");
        BeeRegister x = Kit.mapped("class A way own { a : flag ; } class B of A { }");
        for (int c : new int[] {-1, 2, 12, Integer.MAX_VALUE, Integer.MIN_VALUE}) {
            for (int what = 0; what < 4; what++) {
                Kit.due("look(" + c + ", " + what + ")", x.look(c, what), NONE);
            }
        }
        for (int what : new int[] {-1, 4, Integer.MAX_VALUE, Integer.MIN_VALUE}) {
            Kit.due("look(0, " + what + ")", x.look(0, what), NONE);
        }
        Sentences.promise(6, "what 0: the class behind its \"of\", 1: its ROOT, 2: its WAY (0 one, 1 joined, 2 own), "
                + "3: members in all.");
        int[][] told = {{NONE, 0, 2, 1}, {0, 0, 2, 1}};
        for (int c = 0; c < 2; c++) {
            for (int what = 0; what < 4; what++) {
                Kit.due("look(" + c + ", " + what + ")", x.look(c, what), told[c][what]);
            }
        }
        Kit.map(x, "class A { }");
        Kit.due("a class without members", x.look(0, 3), 0);
        Kit.due("of the text ahead", x.look(1, 3), NONE);
    }

    private static void members() {
        Sentences.promise(7, "Of member m of class c (the ROOT's first), what 0: 0 whole, 1 small, 2 flag, 3 names, "
                + "4 reference, 5 list");
        BeeRegister x = Kit.mapped("class A { w : whole unique ; s : small ; f : flag ; e : ( p ) ; "
                + "g : ( p , q , r ) ; a : to B must owned ; } class B of A { b : to A ; l : list B by b owned ; }");
        int[] first = {0, 1, 2, 3, 3, 4, 4, 5};
        for (int m = 0; m < 8; m++) {
            Kit.due("member(1, " + m + ", 0)", x.member(1, m, 0), first[m]);
            Kit.due("member(0, " + m + ", 0)", x.member(0, m, 0), m < 6 ? first[m] : NONE);
        }
        Sentences.promise(7, "1: the class that it leads to, how many names (0)");
        int[] second = {0, 0, 0, 1, 3, 1, 0, 1};
        for (int m = 0; m < 8; m++) {
            Kit.due("member(1, " + m + ", 1)", x.member(1, m, 1), second[m]);
        }
        Sentences.promise(7, "2: 1 unique, 2 must, 4 owned, these together");
        int[] third = {1, 0, 0, 0, 0, 6, 0, 4};
        for (int m = 0; m < 8; m++) {
            Kit.due("member(1, " + m + ", 2)", x.member(1, m, 2), third[m]);
        }
        Sentences.promise(7, "3: of a list the member of that class.");
        for (int m = 0; m < 8; m++) {
            Kit.due("member(1, " + m + ", 3)", x.member(1, m, 3), m == 7 ? 6 : NONE);
        }
        Sentences.promise(7, "NONE if there is none such.");
        for (int what = 0; what < 4; what++) {
            for (int c : new int[] {-1, 2, Integer.MAX_VALUE, Integer.MIN_VALUE}) {
                Kit.due("member(" + c + ", 0, " + what + ")", x.member(c, 0, what), NONE);
            }
            for (int m : new int[] {-1, 6, 16, Integer.MAX_VALUE, Integer.MIN_VALUE}) {
                Kit.due("member(0, " + m + ", " + what + ")", x.member(0, m, what), NONE);
            }
        }
        for (int what : new int[] {-1, 4, Integer.MAX_VALUE, Integer.MIN_VALUE}) {
            Kit.due("member(1, 7, " + what + ")", x.member(1, 7, what), NONE);
        }
    }
}
