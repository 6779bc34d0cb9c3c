/** The edges of Terms 4 and of promises 9 to 12 and 23: what is written, in what order, and what breaks it off. */
final class WritingEdges {
    private static final int NONE = BeeRegister.NONE;
    private static final int LOADED = 1;
    private static final int NEW = 2;
    private static final int DROPPED = 3;
    private static final int GONE = 4;
    private static final int[] NO_UNITS = {-1, 1, 3, 4, Integer.MAX_VALUE, Integer.MIN_VALUE};
    private static final int[] WILD = {Integer.MAX_VALUE, Integer.MIN_VALUE};

    private WritingEdges() {
    }

    static void run() {
        order();
        hooks();
        inserts();
        putOff();
        circles();
        changes();
        deletes();
        stale();
        staleFirst();
        noRoom();
        membersInOrder();
        leadersInOrder();
        asTheyWere();
        closedBehindTwo();
        behindNone();
        closing();
        flushing();
        outcomes();
        writes();
        fromOutside();
        refusedFromOutside();
    }

    private static BeeRegister opened(String text, int... classes) {
        BeeRegister x = Kit.mapped(text);
        x.unit();
        for (int c : classes) {
            x.make(0, c);
        }
        return x;
    }

    private static void order() {
        Sentences.term(4, "Order of objects: by their class (as told in the text), then KEY.");
        BeeRegister x = opened("class A { n : whole ; } class C { n : whole ; } class B of A { }", 2, 1, 0, 2, 0);
        int[][] due = {{0, 2}, {0, 4}, {1, 1}, {2, 1}, {2, 3}};
        for (int how = 0; how < 3; how++) {
            Kit.due("flush", x.flush(0), 0);
            for (int i = 0; i < 5; i++) {
                Kit.wrote(x, i, how, due[i][0], due[i][1], how == 1 ? 1 : 0);
            }
            Kit.noWrite(x, 5);
            for (int o = 4; o >= 0; o--) {
                if (how == 0) {
                    x.put(o, 0, 7);
                } else {
                    x.drop(o);
                }
            }
        }
    }

    private static void hooks() {
        Sentences.term(4, "of each NEW object \"insert\", then of each LOADED one with a value other than its copy "
                + "\"change\"");
        String text = "class A { n : whole ; m : whole ; a : to A ; hook insert n + 1 ; hook change n + 10 ; "
                + "hook change m + 100 ; } class B of A { hook insert m + 1000 ; hook insert n + 999999 ; }";
        BeeRegister x = opened(text, 0, 0);
        x.flush(0);
        Kit.due("insert", x.value(0, 0), 1);
        x.flush(0);
        Kit.due("not again", x.value(0, 0), 1);
        x.link(0, 2, 1);
        x.flush(0);
        Kit.due("change", x.value(0, 0), 11);
        Kit.due("change", x.value(0, 1), 100);
        Kit.due("one without a change", x.value(1, 0), 1);
        x.put(0, 0, 5);
        x.drop(0);
        x.flush(0);
        Kit.due("a dropped one is deleted", x.write(0, 0), 2);

        Sentences.term(4, "those of its classes from the ROOT down, in order: the member becomes so much more "
                + "(by 32 bits, round).");
        x = opened(text, 1);
        x.put(0, 0, Integer.MAX_VALUE);
        x.put(0, 1, Integer.MAX_VALUE - 999);
        x.flush(0);
        Kit.due("round", x.value(0, 0), Integer.MIN_VALUE + 999999);
        Kit.due("round", x.value(0, 1), Integer.MIN_VALUE);
        Kit.due("in the row", x.cell(0, 1, 2), Integer.MIN_VALUE + 999999);
        x.put(0, 1, Integer.MAX_VALUE);
        x.flush(0);
        Kit.due("round in a change", x.cell(0, 1, 3), Integer.MIN_VALUE + 99);
    }

    private static void inserts() {
        Sentences.term(4, "again and again the first one whose references lead to no NEW one that isn't inserted yet "
                + "(itself not counted)");
        BeeRegister x = opened("class A { a : to A ; b : to B must ; } class B { a : to A ; }", 0, 0, 0, 1, 1);
        int[][] links = {{0, 0, 2}, {0, 1, 3}, {1, 0, 1}, {1, 1, 4}, {2, 0, 1}, {2, 1, 3}, {3, 0, 1}};
        for (int[] link : links) {
            x.link(link[0], link[1], link[2]);
        }
        Kit.due("flush", x.flush(0), 0);
        int[][] due = {{1, 2}, {0, 2}, {1, 1}, {0, 3}, {0, 1}};
        for (int i = 0; i < 5; i++) {
            Kit.wrote(x, i, 0, due[i][0], due[i][1], 0);
        }
        Kit.noWrite(x, 5);
        Kit.due("one that leads to itself is not put off", x.object(1, 3), 1);
    }

    private static void putOff() {
        Sentences.term(4, "without such: the first one all of whose references that do so are without \"must\": "
                + "these are EMPTY in its row at first");
        String text = "class A { m : to A must ; a : to A ; b : to A ; }";
        BeeRegister x = opened(text, 0, 0, 0);
        int[][] links = {{0, 0, 0}, {1, 0, 1}, {2, 0, 2}, {0, 1, 1}, {0, 2, 2}, {1, 1, 0}, {2, 1, 0}};
        for (int[] link : links) {
            x.link(link[0], link[1], link[2]);
        }
        Kit.due("flush", x.flush(0), 0);
        for (int i = 0; i < 3; i++) {
            Kit.wrote(x, i, 0, 0, i + 1, 0);
        }
        Kit.wrote(x, 3, 1, 0, 1, 2);
        Kit.noWrite(x, 4);
        int[] row = {0, 2, 1, 2, 3};
        for (int column = 0; column < 5; column++) {
            Kit.due("it leads there in the end", x.cell(0, 1, column), row[column]);
        }
        x = opened(text, 0, 0);
        x.link(0, 0, 1);
        x.link(0, 1, 1);
        x.link(1, 0, 1);
        x.link(1, 1, 0);
        Kit.due("the first one has a must", x.flush(0), 0);
        Kit.wrote(x, 0, 0, 0, 2, 0);
        Kit.wrote(x, 1, 0, 0, 1, 0);
        Kit.wrote(x, 2, 1, 0, 2, 1);
        Kit.noWrite(x, 3);
    }

    private static void circles() {
        Sentences.term(4, "without such: OUTCOME 4, at the first one.");
        BeeRegister x = opened("class A { a : to A ; } class B { b : to B must ; a : to A ; } class C { }",
                1, 1, 1, 2, 0);
        x.link(0, 0, 0);
        x.link(1, 0, 2);
        x.link(2, 0, 1);
        Kit.due("flush", x.flush(0), 4);
        Kit.came(x, 4, 1, 2, NONE, NONE);
        Kit.wrote(x, 0, 0, 0, 1, 0);
        Kit.wrote(x, 1, 0, 1, 1, 0);
        Kit.wrote(x, 2, 0, 2, 1, 0);
        Kit.noWrite(x, 3);
        Kit.due("rows", x.count(2), 0);
        Kit.due("the unit stays", x.count(1), 1);
        x.link(2, 0, 0);
        Kit.due("without the circle", x.flush(0), 0);
    }

    private static void changes() {
        Sentences.term(4, "The first one that has references put off, or (LOADED) values other than its copy, "
                + "is changed: just these columns; its VERSION is 1 more; then the next one.");
        BeeRegister x = opened("class A { n : whole ; f : flag ; a : to A ; } class B of A { }", 1, 0, 0);
        x.flush(0);
        x.make(0, 0);
        x.make(0, 0);
        x.link(3, 2, 4);
        x.link(4, 2, 3);
        x.put(0, 0, 1);
        x.put(0, 1, 1);
        x.link(0, 2, 3);
        x.put(2, 0, 2);
        x.put(1, 0, 3);
        x.put(1, 0, 0);
        Kit.due("flush", x.flush(0), 0);
        Kit.wrote(x, 0, 0, 0, 4, 0);
        Kit.wrote(x, 1, 0, 0, 5, 0);
        Kit.wrote(x, 2, 1, 0, 3, 1);
        Kit.wrote(x, 3, 1, 0, 4, 1);
        Kit.wrote(x, 4, 1, 1, 1, 3);
        Kit.noWrite(x, 5);
        int[] versions = {2, 1, 2, 2, 1};
        for (int o = 0; o < 5; o++) {
            Kit.due("version of " + o, x.object(o, 3), versions[o]);
            Kit.due("version of the row", x.cell(0, x.object(o, 1), 1), versions[o]);
        }
    }

    private static void deletes() {
        Sentences.term(4, "again and again the first one to which no row refers but its own; "
                + "without such the first one.");
        BeeRegister x = opened("class A { a : to A ; } class B { a : to A ; }", 0, 0, 0, 1);
        int[][] links = {{0, 0, 0}, {1, 0, 2}, {2, 0, 0}, {3, 0, 1}};
        for (int[] link : links) {
            x.link(link[0], link[1], link[2]);
        }
        x.flush(0);
        for (int o = 0; o < 4; o++) {
            x.drop(o);
        }
        Kit.due("flush", x.flush(0), 0);
        int[][] due = {{1, 1}, {0, 2}, {0, 3}, {0, 1}};
        for (int i = 0; i < 4; i++) {
            Kit.wrote(x, i, 2, due[i][0], due[i][1], 0);
        }
        Kit.noWrite(x, 4);
        x.make(0, 0);
        x.make(0, 0);
        x.make(0, 0);
        x.link(4, 0, 5);
        x.link(5, 0, 4);
        Kit.due("flush", x.flush(0), 0);
        for (int o = 4; o < 7; o++) {
            x.drop(o);
        }
        Kit.due("two that lead to each other", x.flush(0), 1);
        Kit.came(x, 1, 0, 4, 0, 2);
        Kit.wrote(x, 0, 2, 0, 6, 0);
        Kit.noWrite(x, 1);
    }

    /** Rows 1 and 2 are loaded by units 0 and 1; row 2 leads to row 1. */
    private static BeeRegister twice() {
        BeeRegister x = opened("class A { n : small unique ; a : to A ; m : to A must ; }", 0, 0);
        x.put(1, 0, 1);
        x.link(0, 2, 0);
        x.link(1, 2, 1);
        x.link(1, 1, 0);
        x.flush(0);
        x.unit();
        x.find(1, 0, 1);
        x.find(1, 0, 2);
        return x;
    }

    private static void stale() {
        Sentences.term(4, "(of a change, a delete) there is no row with the KEY, or its VERSION is not the copy's "
                + "(of one put off that of its row): OUTCOME 2");
        for (int how = 0; how < 4; how++) {
            BeeRegister x = twice();
            if (how < 2) {
                x.drop(101);
            } else {
                x.put(101, 0, 9);
            }
            Kit.due("unit 1 writes", x.flush(1), 0);
            if (how % 2 == 0) {
                x.put(1, 0, 7);
            } else {
                x.drop(1);
            }
            Kit.due("unit 0 writes " + how, x.flush(0), 2);
            Kit.came(x, 2, 0, 2, NONE, NONE);
            Kit.noWrite(x, 0);
            Kit.due("rows", x.count(2), how < 2 ? 1 : 2);
        }
        BeeRegister y = twice();
        y.other(0, 2, 0, 9);
        Kit.due("one that is as its copy is not looked at", y.flush(0), 0);
        Kit.due("its version stays", y.object(1, 3), 1);
        y.make(0, 0);
        y.make(0, 0);
        y.put(2, 0, 5);
        y.put(3, 0, 6);
        y.link(2, 2, 2);
        y.link(3, 2, 3);
        y.link(2, 1, 3);
        y.link(3, 1, 2);
        Kit.due("one put off", y.flush(0), 0);
        Kit.due("its version", y.object(2, 3), 2);
        y.put(2, 0, 8);
        Kit.due("and again", y.flush(0), 0);
        Kit.due("its version", y.object(2, 3), 3);
        y.put(1, 0, 4);
        Kit.due("now it is looked at", y.flush(0), 2);
        Kit.came(y, 2, 0, 2, NONE, NONE);
    }

    private static void staleFirst() {
        Sentences.term(4, "A write breaks off all if (of a change, a delete) there is no row with the KEY, "
                + "or its VERSION is not the copy's");
        BeeRegister x = twice();
        x.other(0, 1, 0, 9);
        x.link(0, 2, NONE);
        Kit.due("a change that would break a rule, too", x.flush(0), 2);
        Kit.came(x, 2, 0, 1, NONE, NONE);
        x = twice();
        x.other(0, 1, 0, 9);
        x.drop(0);
        Kit.due("a delete of a row that another one leads to", x.flush(0), 2);
        Kit.came(x, 2, 0, 1, NONE, NONE);
    }

    private static void noRoom() {
        Sentences.term(4, "if the FAMILY has no room: 5");
        BeeRegister x = Kit.mapped("class A { } class B { } class C of B { }");
        x.unit();
        for (int i = 0; i < 60; i++) {
            x.make(0, 1 + i % 2);
        }
        Kit.due("sixty rows", x.close(0, 1), 0);
        x.unit();
        x.make(0, 2);
        x.find(0, 1, 1);
        x.drop(1);
        Kit.due("what is dropped is deleted later", x.flush(0), 5);
        Kit.came(x, 5, 2, 61, NONE, NONE);
        Kit.noWrite(x, 0);
        Kit.due("the unit stays", x.count(1), 1);
        x = Kit.mapped("class A { a : to A must ; }");
        x.unit();
        for (int i = 0; i < 60; i++) {
            x.make(0, 0);
            x.link(i, 0, 0);
        }
        Kit.due("sixty rows", x.close(0, 1), 0);
        x.unit();
        x.make(0, 0);
        Kit.due("no room, and a rule would be broken", x.flush(0), 5);
    }

    private static void membersInOrder() {
        Sentences.term(4, "if a RULE is broken by it (members in order, of one \"must\", \"unique\", "
                + "then that it leads to a row, itself too;");
        BeeRegister x = opened("class A { a : to A ; u : flag unique ; m : to A must ; }", 0, 0, 0);
        x.link(0, 2, 0);
        x.drop(1);
        Kit.due("itself", x.flush(0), 1);
        Kit.came(x, 1, 0, 3, 1, 1);
        Kit.wrote(x, 0, 0, 0, 1, 0);
        x.link(2, 0, 2);
        Kit.due("a value that another row has", x.flush(0), 1);
        Kit.came(x, 1, 0, 3, 1, 1);
        x.put(2, 1, 1);
        Kit.due("an empty must", x.flush(0), 1);
        Kit.came(x, 1, 0, 3, 2, 0);
        x.link(2, 2, 0);
        Kit.due("flush", x.flush(0), 0);
        x.make(0, 0);
        x.link(2, 0, 3);
        x.drop(3);
        x.put(2, 1, 0);
        x.link(2, 2, NONE);
        Kit.due("a reference to no row", x.flush(0), 1);
        Kit.came(x, 1, 0, 3, 0, 2);
        x.link(2, 0, NONE);
        Kit.due("a value that another row has", x.flush(0), 1);
        Kit.came(x, 1, 0, 3, 1, 1);
        x.put(2, 1, 1);
        Kit.due("an empty must", x.flush(0), 1);
        Kit.came(x, 1, 0, 3, 2, 0);
    }

    private static void leadersInOrder() {
        Sentences.term(4, "of a delete: that no other row leads to it, of several the first one by class and KEY, "
                + "its first such member): OUTCOME 1.");
        BeeRegister x = opened("class Z { p : flag ; q : to T ; r : to T ; } class T { t : to T ; } "
                + "class Y { f : flag ; s : to T ; }", 1, 0, 0, 2, 1);
        int[][] links = {{0, 0, 0}, {1, 2, 0}, {2, 1, 0}, {3, 1, 0}, {4, 0, 0}};
        for (int[] link : links) {
            x.link(link[0], link[1], link[2]);
        }
        x.flush(0);
        x.drop(0);
        Kit.due("first by key", x.flush(0), 1);
        Kit.came(x, 1, 1, 1, 2, 2);
        x.unit();
        x.find(1, 0, 1);
        x.find(1, 1, 1);
        x.link(100, 1, 101);
        x.flush(1);
        Kit.due("its first such member", x.flush(0), 1);
        Kit.came(x, 1, 1, 1, 1, 2);
        x.close(0, 0);
        x.find(1, 0, 2);
        x.drop(100);
        x.drop(102);
        x.flush(1);
        x.find(1, 1, 2);
        x.drop(101);
        Kit.due("first by class: its own class ahead of Y", x.flush(1), 1);
        Kit.came(x, 1, 1, 1, 0, 2);
        x.link(103, 0, NONE);
        Kit.due("then Y", x.flush(1), 1);
        Kit.came(x, 1, 1, 1, 1, 2);
        x.drop(x.find(1, 2, 1));
        Kit.due("no other row but its own", x.flush(1), 0);
    }

    private static void asTheyWere() {
        Sentences.term(4, "Then all rows are as they were ahead of (2), the objects as they are (by hooks, too).");
        BeeRegister x = opened("class A { n : whole ; a : to A ; hook insert n + 1 ; hook change n + 10 ; } "
                + "class B { a : to A ; }", 0, 0, 0, 1);
        x.link(3, 0, 2);
        x.flush(0);
        x.make(0, 0);
        x.put(0, 0, 5);
        x.drop(1);
        x.drop(2);
        Kit.due("flush", x.flush(0), 1);
        Kit.came(x, 1, 0, 3, 0, 2);
        Kit.wrote(x, 0, 0, 0, 4, 0);
        Kit.wrote(x, 1, 1, 0, 1, 1);
        Kit.wrote(x, 2, 2, 0, 2, 0);
        Kit.noWrite(x, 3);
        Kit.due("rows", x.count(2), 4);
        Kit.due("no row of the new one", x.cell(0, 4, 0), Long.MIN_VALUE);
        Kit.due("the row of the changed one", x.cell(0, 1, 2), 1);
        Kit.due("its version", x.cell(0, 1, 1), 1);
        Kit.due("the row of the dropped one", x.cell(0, 2, 2), 1);
        int[] states = {LOADED, DROPPED, DROPPED, LOADED, NEW};
        for (int o = 0; o < 5; o++) {
            Kit.state(x, o, states[o]);
        }
        Kit.due("by its hook", x.value(0, 0), 15);
        Kit.due("by its hook", x.value(4, 0), 1);
        Kit.due("the copy's version", x.object(0, 3), 1);
        x.link(3, 0, NONE);
        Kit.due("then all is written", x.flush(0), 0);
        Kit.due("by its hook again", x.cell(0, 1, 2), 25);
        Kit.due("by its hook again", x.cell(0, 4, 2), 2);
        allColumnsAsTheyWere();
    }

    /** Rows of different classes, of which the first one is deleted ahead of the break. */
    private static void allColumnsAsTheyWere() {
        BeeRegister x = opened("class A { n : whole ; a : to A ; } class B of A { }", 0, 1, 0, 1);
        for (int o = 0; o < 4; o++) {
            x.put(o, 0, o);
        }
        x.link(3, 1, 2);
        x.flush(0);
        x.put(3, 0, 9);
        x.drop(0);
        x.drop(2);
        Kit.due("flush", x.flush(0), 1);
        Kit.wrote(x, 1, 2, 0, 1, 0);
        for (int o = 0; o < 4; o++) {
            int[] row = {o % 2, 1, o, o == 3 ? 3 : 0};
            for (int column = 0; column < 4; column++) {
                Kit.due("cell(0, " + (o + 1) + ", " + column + ")", x.cell(0, o + 1, column), row[column]);
            }
        }
    }

    private static void closedBehindTwo() {
        Sentences.term(4, "After 2 the UNIT is closed.");
        BeeRegister x = twice();
        x.other(0, 1, 0, 9);
        x.put(0, 0, 3);
        Kit.due("flush", x.flush(0), 2);
        Kit.due("units", x.count(1), 1);
        Kit.due("its objects", x.object(0, 0), NONE);
        Kit.due("flush", x.flush(0), NONE);
        Kit.due("its number is free", x.unit(), 0);
        x.make(0, 0);
        Kit.due("after 1 it is not", x.flush(0), 1);
        Kit.due("units", x.count(1), 2);
    }

    private static void behindNone() {
        Sentences.term(4, "Behind OUTCOME 0: NEW and changed ones are LOADED, with copies of now; "
                + "DROPPED ones are GONE.");
        BeeRegister x = opened("class A { n : whole ; }", 0, 0, 0);
        Kit.due("flush", x.flush(0), 0);
        Kit.state(x, 0, LOADED);
        Kit.due("version", x.object(0, 3), 1);
        x.put(0, 0, 4);
        x.drop(1);
        Kit.due("flush", x.flush(0), 0);
        Kit.state(x, 0, LOADED);
        Kit.due("version", x.object(0, 3), 2);
        Kit.state(x, 1, GONE);
        Kit.due("its key", x.object(1, 1), 2);
        Kit.due("flush", x.flush(0), 0);
        Kit.noWrite(x, 0);
        x.put(0, 0, 0);
        Kit.due("other than the copy of now", x.flush(0), 0);
        Kit.wrote(x, 0, 1, 0, 1, 1);
    }

    private static void closing() {
        Sentences.promise(9, "It is written and closed (how 1; with an OUTCOME but 0 it stays, after 2 it is closed)");
        BeeRegister x = opened("class A { n : flag unique ; a : to A must ; }", 0, 0);
        x.link(0, 1, 0);
        x.link(1, 1, 1);
        Kit.due("a rule is broken", x.close(0, 1), 1);
        Kit.due("it stays", x.count(1), 1);
        Kit.state(x, 0, NEW);
        x.put(1, 0, 1);
        Kit.due("written", x.close(0, 1), 0);
        Kit.due("closed", x.count(1), 0);
        Kit.due("rows", x.count(2), 2);
        x.unit();
        x.find(0, 0, 1);
        x.drop(0);
        x.other(0, 1, 1, 2);
        Kit.due("of another version", x.close(0, 1), 2);
        Kit.due("closed", x.count(1), 0);
        x.unit();
        x.make(0, 0);
        x.make(0, 0);
        x.link(0, 1, 1);
        x.link(1, 1, 0);
        Kit.due("a circle", x.close(0, 1), 4);
        Kit.due("it stays", x.count(1), 1);

        Sentences.promise(9, "or closed (how 0): the OUTCOME");
        Kit.due("closed", x.close(0, 0), 0);
        Kit.due("units", x.count(1), 0);
        Kit.due("nothing was written", x.count(2), 2);
        Kit.due("no writing", x.outcome(0), 4);

        Sentences.promise(9, "NONE: no such UNIT, how.");
        Kit.due("closed already", x.close(0, 0), NONE);
        x.unit();
        for (int unit : NO_UNITS) {
            Kit.due("close(" + unit + ", 0)", x.close(unit, 0), NONE);
            Kit.due("close(" + unit + ", 1)", x.close(unit, 1), NONE);
        }
        for (int how : new int[] {-1, 2, Integer.MAX_VALUE, Integer.MIN_VALUE}) {
            Kit.due("close(0, " + how + ")", x.close(0, how), NONE);
        }
        Kit.due("it is open", x.count(1), 1);
    }

    private static void flushing() {
        Sentences.promise(10, "It is written: the OUTCOME; NONE: no such UNIT.");
        BeeRegister x = opened("class A { a : to A must ; }");
        Kit.due("nothing to write", x.flush(0), 0);
        x.make(0, 0);
        Kit.due("a rule is broken", x.flush(0), 1);
        Kit.due("the unit stays", x.count(1), 1);
        for (int unit : NO_UNITS) {
            Kit.due("flush(" + unit + ")", x.flush(unit), NONE);
        }
        Kit.due("the latest writing stays", x.outcome(0), 1);
        x.link(0, 0, 0);
        Kit.due("flush", x.flush(0), 0);
        Kit.due("the unit stays", x.count(1), 1);
        Kit.due("rows", x.count(2), 1);
    }

    private static void outcomes() {
        Sentences.promise(11, "Of the latest writing, what 0: its OUTCOME (0 ahead of any), "
                + "1: with another one than 0 the class of the object, 2: its KEY, "
                + "3: with 1 the member (of a delete: that of the row that leads to it), "
                + "4: the RULE: 0 must, 1 unique, 2 the other one; NONE else.");
        BeeRegister x = new BeeRegister();
        Kit.came(x, 0, NONE, NONE, NONE, NONE);
        x = opened("class Z { } class A { u : flag unique ; m : to A must ; n : whole ; } "
                + "class B { f : flag ; a : to A ; }", 1, 1, 2);
        x.link(0, 1, 0);
        Kit.due("unique", x.flush(0), 1);
        Kit.came(x, 1, 1, 2, 0, 1);
        x.put(1, 0, 1);
        Kit.due("must", x.flush(0), 1);
        Kit.came(x, 1, 1, 2, 1, 0);
        x.link(1, 1, 1);
        x.link(2, 1, 1);
        Kit.due("flush", x.flush(0), 0);
        Kit.came(x, 0, NONE, NONE, NONE, NONE);
        x.drop(1);
        Kit.due("a delete", x.flush(0), 1);
        Kit.came(x, 1, 1, 2, 1, 2);
        x.other(1, 1, 2, 1);
        x.put(0, 2, 7);
        Kit.due("another version", x.flush(0), 2);
        Kit.came(x, 2, 1, 1, NONE, NONE);
        for (int what : new int[] {-1, 5, Integer.MAX_VALUE, Integer.MIN_VALUE}) {
            Kit.due("outcome(" + what + ")", x.outcome(what), NONE);
        }
    }

    private static void writes() {
        Sentences.promise(12, "Of the i-th write of the latest writing (also of one that was broken off, "
                + "without the one that broke it), what 0: 0 insert, 1 change, 2 delete; 1: the class, 2: the KEY,");
        BeeRegister x = opened("class A { u : small unique ; n : whole ; }", 0, 0);
        Kit.due("the second insert breaks it", x.flush(0), 1);
        Kit.wrote(x, 0, 0, 0, 1, 0);
        for (int what = 0; what < 4; what++) {
            Kit.due("write(1, " + what + ")", x.write(1, what), NONE);
        }
        x.put(0, 0, 5);
        x.flush(0);
        x.put(0, 0, 6);
        x.put(0, 1, 6);
        x.put(1, 0, 6);
        Kit.due("the second change breaks it", x.flush(0), 1);
        Sentences.promise(12, "3: how many columns (of a change; else 0).");
        Kit.wrote(x, 0, 1, 0, 1, 2);
        Kit.noWrite(x, 1);
        x.drop(1);
        Kit.due("flush", x.flush(0), 0);
        Kit.wrote(x, 0, 1, 0, 1, 2);
        Kit.wrote(x, 1, 2, 0, 2, 0);
        Sentences.promise(12, "NONE if there is none such.");
        for (int i : new int[] {-1, 2, 120, Integer.MAX_VALUE, Integer.MIN_VALUE}) {
            for (int what = 0; what < 4; what++) {
                Kit.due("write(" + i + ", " + what + ")", x.write(i, what), NONE);
            }
        }
        for (int what : new int[] {-1, 4, Integer.MAX_VALUE, Integer.MIN_VALUE}) {
            Kit.due("write(0, " + what + ")", x.write(0, what), NONE);
        }
        x.flush(0);
        Kit.noWrite(x, 0);
        manyWrites();
    }

    private static void manyWrites() {
        BeeRegister x = LimitsTest.chainOfSixty();
        Kit.due("flush", x.flush(0), 0);
        Kit.wrote(x, 59, 0, 0, 60, 0);
        Kit.wrote(x, 60, 1, 0, 1, 1);
        Kit.wrote(x, 118, 1, 0, 59, 1);
        Kit.noWrite(x, 119);
    }

    /** Rows A 1 and H 2 (an heir of A), which leads to itself by m. */
    private static BeeRegister outside() {
        BeeRegister x = opened("class A way own { s : small unique ; f : flag ; a : to A ; l : list A by a ; } "
                + "class H of A { e : ( p , q ) ; w : whole ; m : to H must ; } class Z { }", 0, 1);
        x.put(1, 0, 1);
        x.link(1, 6, 1);
        Kit.due("flush", x.flush(0), 0);
        return x;
    }

    private static void fromOutside() {
        Sentences.promise(23, "From outside: member m of the row with a KEY of class c's FAMILY becomes v "
                + "(of a reference a KEY, 0 EMPTY), its VERSION 1 more: true");
        BeeRegister x = outside();
        int[][] calls = {{0, 2, 0, 127}, {1, 2, 0, -128}, {0, 2, 1, 1}, {0, 2, 2, 1}, {1, 2, 2, 2}, {0, 2, 2, 0},
            {0, 2, 4, 1}, {0, 2, 5, Integer.MIN_VALUE}, {0, 2, 5, Integer.MAX_VALUE}, {0, 2, 6, 2}};
        int[] columns = {1, 1, 2, 3, 3, 3, 4, 5, 5, 6};
        for (int i = 0; i < calls.length; i++) {
            int[] c = calls[i];
            Kit.due("other " + i, x.other(c[0], c[1], c[2], c[3]), true);
            Kit.due("its value", x.cell(1, 2, columns[i]), c[3]);
            Kit.due("its version", x.cell(1, 2, 0), 2 + i);
        }
        Kit.due("by the heir's class, of the root's row", x.other(1, 1, 1, 1), true);
        Kit.due("its value", x.cell(0, 1, 2), 1);
        Kit.due("the object does not know", x.value(1, 5), 0);
        Kit.due("nor its version", x.object(1, 3), 1);
    }

    private static void refusedFromOutside() {
        Sentences.promise(23, "false, and nothing happens: no such class, row, member of its class (but lists), "
                + "or value, or a RULE would be broken.");
        BeeRegister x = outside();
        int[][] calls = {{-1, 1, 0, 5}, {3, 1, 0, 5}, {2, 1, 0, 5}, {0, 0, 0, 5}, {0, 3, 0, 5}, {0, -1, 0, 5},
            {0, 1, -1, 0}, {0, 1, 3, 0}, {0, 1, 4, 0}, {1, 1, 5, 0}, {0, 2, 3, 0}, {0, 2, 7, 0}, {0, 2, 16, 0},
            {0, 1, 0, 128}, {0, 1, 0, -129}, {0, 1, 1, 2}, {0, 1, 1, -1}, {0, 2, 4, 2}, {0, 2, 4, -1},
            {0, 1, 0, 1}, {0, 2, 0, 0}, {0, 2, 6, 0}, {0, 1, 2, 3}, {0, 1, 2, -1}, {0, 2, 6, 1}};
        for (int[] c : calls) {
            String call = "other(" + c[0] + ", " + c[1] + ", " + c[2] + ", " + c[3] + ")";
            Kit.due(call, x.other(c[0], c[1], c[2], c[3]), false);
        }
        for (int wild : WILD) {
            Kit.due("a wild class", x.other(wild, 1, 0, 5), false);
            Kit.due("a wild key", x.other(0, wild, 0, 5), false);
            Kit.due("a wild member", x.other(0, 1, wild, 0), false);
            Kit.due("a wild value", x.other(0, 1, 0, wild), false);
            Kit.due("a wild reference", x.other(0, 1, 2, wild), false);
        }
        int[][] rows = {{1, 0, 0, 0}, {1, 1, 0, 0, 0, 0, 2}};
        for (int c = 0; c < 2; c++) {
            for (int column = 0; column < rows[c].length; column++) {
                Kit.due("cell(" + c + ", " + (c + 1) + ", " + column + ")", x.cell(c, c + 1, column), rows[c][column]);
            }
        }
    }
}
