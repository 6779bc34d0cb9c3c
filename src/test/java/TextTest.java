/** Promises 1 to 7: a new object, the tape, and texts of classes. */
public final class TextTest {
    private static final int NONE = BeeRegister.NONE;
    private static final String[] KEYWORDS = {"class", "of", "way", "one", "joined", "own", "to", "list", "by", "must",
        "owned", "unique", "whole", "small", "flag", "hook", "insert", "change", "where", "or", "and", "not", "empty"};

    private static void newObject() {
        BeeRegister x = new BeeRegister();
        for (int what = 0; what < 3; what++) {
            Kit.due("count", x.count(what), 0);
        }
        Kit.due("fault(0)", x.fault(0), 0);
        Kit.due("fault(1)", x.fault(1), NONE);
        Kit.came(x, 0, NONE, NONE, NONE, NONE);
        Kit.due("write(0, 0)", x.write(0, 0), NONE);
        Kit.due("found(0)", x.found(0), NONE);
        Kit.due("look(0, 0)", x.look(0, 0), NONE);
        Kit.due("member(0, 0, 0)", x.member(0, 0, 0), NONE);
        Kit.due("end(1)", x.end(1), NONE);
        Kit.due("end(0)", x.end(0), 0);
        Kit.due("flush(0)", x.flush(0), NONE);
        Kit.due("loads(0)", x.loads(0), NONE);
        Kit.due("object(0, 0)", x.object(0, 0), NONE);
        Kit.due("value(0, 0)", x.value(0, 0), Long.MIN_VALUE);
        Kit.due("cell(0, 0, 0)", x.cell(0, 0, 0), Long.MIN_VALUE);
        Kit.due("other(0, 1, 0, 0)", x.other(0, 1, 0, 0), false);
        Kit.due("unit()", x.unit(), 0);
        Kit.due("make(0, 0)", x.make(0, 0), NONE);
        Kit.due("find(0, 0, 1)", x.find(0, 0, 1), NONE);
        Kit.due("ask(0)", x.ask(0), NONE);
        Kit.due("fault(0)", x.fault(0), 2);
        Kit.due("fault(1)", x.fault(1), 0);
    }

    private static void tape() {
        BeeRegister x = new BeeRegister();
        Kit.due("feed", x.feed(0x636c6173, 0x73204120, 0x7b206e3a, 0x77686f6c, 0x653b207d), 20);
        Kit.due("end(21)", x.end(21), NONE);
        Kit.due("end(-1)", x.end(-1), NONE);
        Kit.due("end(MIN)", x.end(Integer.MIN_VALUE), NONE);
        Kit.due("end(20)", x.end(20), 20);
        Kit.due("map()", x.map(), 1);
        Kit.due("member(0, 0, 0)", x.member(0, 0, 0), 0);
        Kit.due("end(1) behind map()", x.end(1), NONE);
        for (int i = 1; i <= 150; i++) {
            Kit.due("feed", x.feed(0x20202020, 0x20202020, 0x20202020, 0x20202020, 0x20202020), 20 * i);
        }
        Kit.due("feed on 3000", x.feed(0, 0, 0, 0, 0), NONE);
        Kit.due("end(3000)", x.end(3000), 3000);
        Kit.due("end(2981)", x.end(2981), 2981);
        Kit.due("feed on 2981", x.feed(0, 0, 0, 0, 0), NONE);
        Kit.due("end(2982)", x.end(2982), NONE);
        Kit.due("end(2980)", x.end(2980), 2980);
        Kit.due("feed on 2980", x.feed(0x20202020, 0x20202020, 0x20202020, 0x20202020, 0x20202020), 3000);
        Kit.due("map() of blanks", x.map(), 0);
        x.feed(0xff000000, 0, 0, 0, 0);
        Kit.due("end(1)", x.end(1), 1);
        Kit.due("map() of byte 255", x.map(), NONE);
        Kit.due("fault(0)", x.fault(0), 1);
        Kit.due("fault(1)", x.fault(1), 0);
        Kit.due("end(1) behind a fault", x.end(1), NONE);
    }

    private static void mapsAnew() {
        BeeRegister x = Kit.mapped("class A { n : whole ; }");
        x.unit();
        x.make(0, 0);
        x.flush(0);
        Kit.told(x, 0, "A", 1);
        Kit.due("map() with a fault", Kit.map(x, "class B { } class"), NONE);
        Kit.due("fault(1)", x.fault(1), 17);
        Kit.due("fault(2)", x.fault(2), NONE);
        Kit.due("fault(-1)", x.fault(-1), NONE);
        Kit.due("classes stay", x.count(0), 1);
        Kit.due("members stay", x.look(0, 3), 1);
        Kit.due("units stay", x.count(1), 1);
        Kit.due("rows stay", x.count(2), 1);
        Kit.due("found stays", x.found(0), 1);
        Kit.due("make", x.make(0, 0), 1);
        Kit.due("keys go on", x.object(1, 1), 2);
        Kit.due("map()", Kit.map(x, "class B { } class C { }"), 2);
        Kit.due("fault(0)", x.fault(0), 0);
        Kit.due("fault(1)", x.fault(1), NONE);
        Kit.due("classes", x.count(0), 2);
        Kit.due("no units", x.count(1), 0);
        Kit.due("no rows", x.count(2), 0);
        Kit.due("none found", x.found(0), NONE);
        Kit.due("object(0, 0)", x.object(0, 0), NONE);
        x.unit();
        Kit.due("make", x.make(0, 0), 0);
        Kit.due("keys anew", x.object(0, 1), 1);
        Kit.due("map() of nothing", x.map(), 0);
        Kit.due("no classes", x.count(0), 0);
    }

    /** Nothing of an earlier text is left in a later one. */
    private static void mapsOften() {
        BeeRegister x = new BeeRegister();
        StringBuilder names = new StringBuilder("class A { a : ( x0");
        for (int i = 1; i < 100; i++) {
            names.append(",x").append(i);
        }
        for (int i = 0; i < 10; i++) {
            Kit.due("map()", Kit.map(x, names + ") unique ; b : to A must owned ; n : whole ; hook insert n + 1 ; }"), 1);
            Kit.due("names", x.member(0, 0, 1), 100);
            Kit.due("a fault", Kit.map(x, "class A { c : to B must owned ; }"), NONE);
        }
        Kit.map(x, "class A { }");
        Kit.due("map()", Kit.map(x, "class C { n : whole ; b : to C ; e : ( p ) ; }"), 1);
        Kit.due("members", x.look(0, 3), 3);
        for (int m = 0; m < 3; m++) {
            Kit.due("flags", x.member(0, m, 2), 0);
        }
        Kit.due("names", x.member(0, 2, 1), 1);
        x.unit();
        x.make(0, 0);
        Kit.due("flush", x.flush(0), 0);
        Kit.due("no hook", x.value(0, 0), 0);
    }

    private static void tokens() {
        Kit.accepted("class azAZ09 { }", 1);
        Kit.refused("class ^`", 1);
        Kit.refused("class ^[", 1);
        Kit.refused("class ^@", 1);
        Kit.refused("class A ^/", 1);
        Kit.accepted("", 0);
        Kit.accepted(" \t\n\r", 0);
        Kit.accepted("class A{}class B{}", 2);
        Kit.accepted("class A1b2c3d4 { }", 1);
        Kit.refused("class ^A1b2c3d4e { }", 1);
        Kit.accepted("class A{n:whole;hook insert n+123456;hook change n+000001;}", 1);
        Kit.refused("class A{n:whole;hook insert n+^1234567;}", 1);
        Kit.refused("class A{n:whole;hook insert n+^0000001;}", 1);
        Kit.refused("^_", 1);
        Kit.refused("class A ^* { }", 1);
        Kit.refused("class A {^\u000b}", 1);
        Kit.refused("class A {^\u0000}", 1);
        Kit.refused("class A {^\u00e4}", 1);
        Kit.refused("class A { }^\u0080", 1);
        Kit.refused("class A ^B ?", 2);
        Kit.refused("class ^1A { }", 2);
        Kit.refused("class A1 { n : ^}", 2);
    }

    private static void grammar() {
        Kit.refused("^klass A { }", 2);
        Kit.refused("^A { }", 2);
        Kit.refused("class^", 2);
        Kit.refused("class  ^", 2);
        Kit.refused("class A^", 2);
        Kit.refused("class A {^", 2);
        Kit.refused("class A { }^x", 2);
        Kit.refused("class A { } ^}", 2);
        Kit.refused("class A ^way2 { }", 2);
        Kit.refused("class A way ^two { }", 2);
        Kit.refused("class A way one ^of B { }", 2);
        Kit.refused("class A { } class B of A ^way one { }", 2);
        Kit.refused("class A of ^way { }", 2);
        Kit.refused("class A of ^{ }", 2);
        for (String word : KEYWORDS) {
            Kit.refused("class ^" + word + " { }", 2);
            if (!word.equals("hook")) {
                Kit.refused("class A { ^" + word + " : whole ; }", 2);
            }
            Kit.refused("class A { a : ( ^" + word + " ) ; }", 2);
            Kit.refused("class A { a : to ^" + word + " ; }", 2);
        }
        Kit.accepted("class Class { where1 : whole ; }", 1);
        Kit.refused("class A { a ^whole ; }", 2);
        Kit.refused("class A { a : ^; }", 2);
        Kit.refused("class A { a : ^unique ; }", 2);
        Kit.refused("class A { a : ^A ; }", 2);
        Kit.refused("class A { a : whole ^}", 2);
        Kit.refused("class A { a : whole ^must ; }", 2);
        Kit.refused("class A { a : whole unique ^unique ; }", 2);
        Kit.refused("class A { a : ( ^) ; }", 2);
        Kit.refused("class A { a : ( b ^c ) ; }", 2);
        Kit.refused("class A { a : ( b , ^) ; }", 2);
        Kit.refused("class A { a : ( b ^; }", 2);
        Kit.refused("class A { a : to A ^unique ; }", 2);
        Kit.refused("class A { a : to A owned ^must ; }", 2);
        Kit.refused("class A { a : to A must owned ^owned ; }", 2);
        Kit.refused("class A { a : list A ^; }", 2);
        Kit.refused("class A { a : list A by ^; }", 2);
        Kit.refused("class A { a : list A by a ^must ; }", 2);
        Kit.refused("class A { n : whole ; hook ^delete n + 1 ; }", 2);
        Kit.refused("class A { n : whole ; hook insert ^1 + 1 ; }", 2);
        Kit.refused("class A { n : whole ; hook insert n ^- 1 ; }", 2);
        Kit.refused("class A { n : whole ; hook insert n + ^n ; }", 2);
        Kit.refused("class A { n : whole ; hook insert n + ^- 1 ; }", 2);
        Kit.refused("class A { n : whole ; hook insert n + 1 ^}", 2);
    }

    private static void names() {
        Kit.refused("class A { } class ^A { }", 3);
        Kit.refused("class A of ^B { } class B { }", 3);
        Kit.refused("class A of ^A { }", 3);
        Kit.accepted("class A { } class B of A { } class C of B { }", 3);
        Kit.refused("class A { a : whole ; ^a : flag ; }", 3);
        Kit.refused("class A { a : whole ; } class B of A { } class C of B { ^a : flag ; }", 3);
        Kit.accepted("class A { } class B of A { a : whole ; } class C of A { a : flag ; }", 3);
        Kit.refused("class A { a : ( b , c , ^b ) ; }", 3);
        Kit.accepted("class A { a : ( a , A , b ) ; b : ( a , A , b ) unique ; }", 1);
        Kit.refused("class A { hook insert ^n + 1 ; n : whole ; }", 3);
        Kit.refused("class A { n : small ; hook insert ^n + 1 ; }", 3);
        Kit.refused("class A { n : to A ; hook change ^n + 1 ; }", 3);
        Kit.accepted("class A { n : whole ; } class B of A { hook change n + 1 ; }", 2);
        Kit.refused("class A { n : whole ; } class B { hook change ^n + 1 ; }", 3);
    }

    private static String members(String name, int many) {
        StringBuilder text = new StringBuilder();
        for (int i = 0; i < many; i++) {
            text.append(name).append(i).append(" : flag ; ");
        }
        return text.toString();
    }

    private static void limits() {
        StringBuilder twelve = new StringBuilder();
        for (int i = 0; i < 12; i++) {
            twelve.append("class C").append(i).append(" { } ");
        }
        Kit.accepted(twelve.toString(), 12);
        Kit.refused(twelve + "class ^C12 { }", 4);
        Kit.refused(twelve + "class ^C3 { }", 3);
        Kit.refused(twelve + "class ^{ }", 2);
        Kit.accepted("class A { " + members("m", 16) + "}", 1);
        Kit.refused("class A { " + members("m", 16) + "^n : flag ; }", 4);
        Kit.refused("class A { " + members("m", 16) + "^m3 : flag ; }", 3);
        Kit.accepted("class A { " + members("m", 10) + "} class B of A { " + members("n", 6) + "}", 2);
        Kit.refused("class A { " + members("m", 10) + "} class B of A { " + members("n", 6) + "^x : flag ; }", 4);
        String hooks = "hook insert n + 1 ; hook change n + 1 ; hook insert n + 1 ; hook insert n + 1 ; ";
        Kit.accepted("class A { n : whole ; " + hooks + "} class B of A { " + hooks + "}", 2);
        Kit.refused("class A { n : whole ; " + hooks + "^hook change n + 1 ; }", 4);
        Kit.refused("class A { n : whole ; " + hooks + "} class B of A { " + hooks + "^hook hook }", 4);
    }

    private static void leads() {
        Kit.accepted("class A { b : to B ; } class B { }", 2);
        Kit.refused("class A { b : to ^B ; }", 5);
        Kit.refused("class A { b : list ^B by a ; }", 5);
        Kit.refused("class A { b : to B ; ^* }", 1);
        Kit.refused("class A { b : to ^B ; c : to C ; }", 5);
        Kit.refused("class A { l : list A by ^x ; a : to A ; }", 5);
        Kit.refused("class A { n : whole ; l : list A by ^n ; }", 5);
        Kit.refused("class A { l : list A by ^l ; }", 5);
        Kit.refused("class A { l : list B by ^r ; } class B { r : to B ; }", 5);
        Kit.refused("class A { l : list B by ^r ; } class B { r : to C ; }", 5);
        Kit.refused("class B { r : to ^C ; } class A { l : list B by r ; }", 5);
        Kit.accepted("class A { } class B of A { l : list C by r ; } class C { r : to A ; }", 3);
        Kit.refused("class A { l : list C by ^r ; } class B of A { } class C { r : to B ; }", 5);
        Kit.accepted("class A { l : list C by r ; } class D { r : to A ; } class C of D { }", 3);
        Kit.refused("class A { l : list D by ^r ; } class D { } class C of D { r : to A ; }", 5);
    }

    private static void members() {
        BeeRegister x = Kit.mapped("class A way joined { n : whole unique ; a : to B must owned ; } class B way own { } "
                + "class C of A { s : small unique ; f : flag ; e : ( u , v , w ) unique ; } "
                + "class D of C { b : to A must ; c : to C owned ; l : list D by b owned ; k : list D by c ; } "
                + "class E { }");
        int[][] classes = {{NONE, 0, 1, 2}, {NONE, 1, 2, 0}, {0, 0, 1, 5}, {2, 0, 1, 9}, {NONE, 4, 0, 0}};
        for (int c = 0; c < 5; c++) {
            for (int what = 0; what < 4; what++) {
                Kit.due("look(" + c + ", " + what + ")", x.look(c, what), classes[c][what]);
            }
            Kit.due("look(c, 4)", x.look(c, 4), NONE);
            Kit.due("look(c, -1)", x.look(c, -1), NONE);
        }
        Kit.due("look(5, 1)", x.look(5, 1), NONE);
        Kit.due("look(-1, 1)", x.look(-1, 1), NONE);
        int[][] members = {{0, 0, 1, NONE}, {4, 1, 6, NONE}, {1, 0, 1, NONE}, {2, 0, 0, NONE}, {3, 3, 1, NONE},
            {4, 0, 2, NONE}, {4, 2, 4, NONE}, {5, 3, 4, 5}, {5, 3, 0, 6}};
        for (int m = 0; m < 9; m++) {
            for (int what = 0; what < 4; what++) {
                Kit.due("member(3, " + m + ", " + what + ")", x.member(3, m, what), members[m][what]);
                Kit.due("member(2, " + m + ", " + what + ")", x.member(2, m, what), m < 5 ? members[m][what] : NONE);
            }
            Kit.due("member(3, m, 4)", x.member(3, m, 4), NONE);
            Kit.due("member(3, m, -1)", x.member(3, m, -1), NONE);
        }
        Kit.due("member(3, 9, 0)", x.member(3, 9, 0), NONE);
        Kit.due("member(3, -1, 0)", x.member(3, -1, 0), NONE);
        Kit.due("member(5, 0, 0)", x.member(5, 0, 0), NONE);
        Kit.due("member(-1, 0, 0)", x.member(-1, 0, 0), NONE);
        Kit.due("member(1, 0, 0)", x.member(1, 0, 0), NONE);
    }

    public static void main(String[] args) {
        newObject();
        tape();
        mapsAnew();
        mapsOften();
        tokens();
        grammar();
        names();
        limits();
        leads();
        members();
        Kit.finish();
    }
}
