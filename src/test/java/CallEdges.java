/** The edges of promises 8 and 13 to 22: what is asked of units and their objects. */
final class CallEdges {
    private static final int NONE = BeeRegister.NONE;
    private static final int STAND = 0;
    private static final int LOADED = 1;
    private static final int NEW = 2;
    private static final int DROPPED = 3;
    private static final int GONE = 4;
    private static final int FULL = -2;
    private static final long NO_VALUE = Long.MIN_VALUE;
    private static final int[] NO_UNITS = {-1, 1, 3, 4, Integer.MAX_VALUE, Integer.MIN_VALUE};
    private static final int[] NO_CLASSES = {-1, 2, 12, Integer.MAX_VALUE, Integer.MIN_VALUE};
    private static final int[] NO_OBJECTS = {-1, 6, 59, 60, 99, 100, 400, Integer.MAX_VALUE, Integer.MIN_VALUE};

    private CallEdges() {
    }

    static void run() {
        opening();
        making();
        finding();
        findingStates();
        findingWithoutRoom();
        telling();
        valuing();
        putting();
        linking();
        linkingStands();
        counting();
        picking();
        dropping();
        droppingWithoutRoom();
        loads();
    }

    /**
     * Unit 0 with six objects: rows 1 to 4 of A (of 4 the class is B), of which 1 is dropped, 2 loaded, 3 a stand and
     * 4 loaded; object 4 is new, object 5 gone. Each row leads to row 3, row 3 to row 2 (so 1 and 2 were put off).
     */
    private static BeeRegister six() {
        BeeRegister x = Kit.mapped("class A { n : small ; a : to A ; l : list A by a ; } class B of A { b : to B ; }");
        x.unit();
        for (int i = 0; i < 4; i++) {
            x.make(0, i == 3 ? 1 : 0);
        }
        for (int i = 0; i < 4; i++) {
            x.link(i, 1, i == 2 ? 1 : 2);
        }
        x.close(0, 1);
        x.unit();
        x.find(0, 0, 1);
        x.find(0, 0, 2);
        x.value(1, 1);
        x.find(0, 0, 4);
        x.make(0, 0);
        x.make(0, 0);
        x.drop(0);
        x.drop(5);
        return x;
    }

    private static void fill(BeeRegister x, int unit) {
        for (int i = 0; i < 60; i++) {
            x.make(unit, 0);
        }
    }

    private static void opening() {
        Sentences.promise(8, "A UNIT is opened: the least number that is free; NONE: four are.");
        BeeRegister x = new BeeRegister();
        for (int i = 0; i < 4; i++) {
            Kit.due("unit()", x.unit(), i);
        }
        Kit.due("four are", x.unit(), NONE);
        x.close(3, 0);
        x.close(1, 0);
        Kit.due("the least one", x.unit(), 1);
        Kit.due("the other one", x.unit(), 3);
        Kit.due("four are", x.unit(), NONE);
        Kit.due("units", x.count(1), 4);
    }

    private static void making() {
        Sentences.promise(13, "A NEW object of class c: its number");
        BeeRegister y = Kit.mapped("class A { n : whole ; a : to A ; } class B of A { }");
        y.unit();
        y.unit();
        Kit.due("make", y.make(1, 1), 100);
        Kit.due("make", y.make(1, 0), 101);
        Kit.due("make", y.make(0, 1), 0);
        Kit.state(y, 0, NEW);
        Kit.due("its class", y.object(0, 2), 1);
        Kit.due("its class", y.object(101, 2), 0);
        Kit.due("its value", y.value(0, 0), 0);
        Kit.due("its reference", y.value(0, 1), NONE);

        Sentences.promise(13, "NONE: no such UNIT, class; -2: the UNIT has 60.");
        BeeRegister x = Kit.mapped("class A { } class B { }");
        Kit.due("no unit yet", x.make(0, 0), NONE);
        x.unit();
        x.unit();
        for (int unit : new int[] {-1, 2, 4, Integer.MAX_VALUE, Integer.MIN_VALUE}) {
            Kit.due("make(" + unit + ", 0)", x.make(unit, 0), NONE);
        }
        for (int c : NO_CLASSES) {
            Kit.due("make(0, " + c + ")", x.make(0, c), NONE);
        }
        Kit.due("the last class", x.make(0, 1), 0);
        fill(x, 0);
        Kit.due("sixty", x.make(0, 0), FULL);
        Kit.due("sixty and no class", x.make(0, 2), NONE);
        x.make(1, 0);
        Kit.due("no key was used by those that were refused", x.object(100, 1), 60);
        x.close(1, 0);
        Kit.due("closed", x.make(1, 0), NONE);
    }

    private static void finding() {
        Sentences.promise(14, "NONE: no such UNIT, class, row "
                + "(an object of the UNIT for it that is DROPPED, GONE, too)");
        BeeRegister x = six();
        for (int unit : NO_UNITS) {
            Kit.due("find(" + unit + ", 0, 2)", x.find(unit, 0, 2), NONE);
        }
        for (int c : NO_CLASSES) {
            Kit.due("find(0, " + c + ", 2)", x.find(0, c, 2), NONE);
        }
        for (int key : new int[] {0, -1, 7, 61, Integer.MAX_VALUE, Integer.MIN_VALUE}) {
            Kit.due("find(0, 0, " + key + ")", x.find(0, 0, key), NONE);
        }
        Kit.due("dropped", x.find(0, 0, 1), NONE);
        Kit.due("gone", x.find(0, 0, 6), NONE);
        Kit.due("of the class above", x.find(0, 1, 2), NONE);
        Kit.due("another unit's new one", x.unit(), 1);
        Kit.due("is no row", x.find(1, 0, 5), NONE);
        Kit.due("nothing came", x.object(100, 0), NONE);
        Kit.due("nothing came", x.object(6, 0), NONE);
    }

    private static void findingStates() {
        Sentences.promise(14, "(A NEW one is told by its KEY, too. With NONE nothing is LOADED.)");
        BeeRegister x = six();
        Kit.due("a new one", x.find(0, 0, 5), 4);
        Kit.due("a new one of the class above", x.find(0, 1, 5), NONE);
        Kit.state(x, 4, NEW);
        Kit.due("loads", x.loads(0), 3);
        Kit.due("a stand of the class above", x.find(0, 1, 3), NONE);
        Kit.state(x, 2, STAND);
        Kit.due("a row of the class above", x.find(0, 1, 2), NONE);
        Kit.due("loads", x.loads(0), 3);
        Kit.due("the stand", x.find(0, 0, 3), 2);
        Kit.state(x, 2, LOADED);
        Kit.due("loads", x.loads(0), 4);
        Sentences.promise(14, "The row of class c (or an HEIR) with a KEY is met and LOADED: its object");
        Kit.due("of the heir", x.find(0, 1, 4), 3);
        Kit.due("as the class above", x.find(0, 0, 4), 3);
        x.unit();
        Kit.due("in another unit", x.find(1, 0, 4), 100);
        Kit.state(x, 100, LOADED);
        Kit.due("its class", x.object(100, 2), 1);
        Kit.due("again", x.find(1, 1, 4), 100);
        Kit.due("loads", x.loads(1), 1);
    }

    private static void findingWithoutRoom() {
        Sentences.promise(14, "-2: the UNIT has 60.");
        BeeRegister x = six();
        x.unit();
        for (int i = 0; i < 59; i++) {
            x.make(1, 0);
        }
        Kit.due("the last room", x.find(1, 0, 4), 159);
        Kit.due("none", x.find(1, 0, 2), FULL);
        Kit.due("none, and no row", x.find(1, 0, 7 + 59), NONE);
        Kit.due("none, and of no such class", x.find(1, 1, 2), NONE);
        Kit.due("none is needed", x.find(1, 0, 4), 159);
        Kit.due("loads", x.loads(1), 1);
    }

    private static void telling() {
        Sentences.promise(15, "what 0: its state (as 3. has it; this loads nothing), 1: its KEY (likewise)");
        BeeRegister x = six();
        int[] states = {DROPPED, LOADED, STAND, LOADED, NEW, GONE};
        for (int o = 0; o < 6; o++) {
            Kit.state(x, o, states[o]);
            Kit.due("key of " + o, x.object(o, 1), o + 1);
            Kit.state(x, o, states[o]);
        }
        Kit.due("loads", x.loads(0), 3);

        Sentences.promise(15, "NONE: no such object, what; of one that is GONE 2, 3.");
        for (int o : NO_OBJECTS) {
            for (int what = 0; what < 4; what++) {
                Kit.due("object(" + o + ", " + what + ")", x.object(o, what), NONE);
            }
        }
        for (int what : new int[] {-1, 4, Integer.MAX_VALUE, Integer.MIN_VALUE}) {
            Kit.due("object(2, " + what + ")", x.object(2, what), NONE);
        }
        Kit.state(x, 2, STAND);
        Kit.due("class of one that is gone", x.object(5, 2), NONE);
        Kit.due("version of one that is gone", x.object(5, 3), NONE);

        Sentences.promise(15, "2: its class, 3: the VERSION of its copy (0 of a NEW one); "
                + "for these two a STAND is LOADED.");
        int[] classes = {0, 0, 0, 1, 0};
        int[] versions = {2, 2, 1, 1, 0};
        for (int o = 0; o < 5; o++) {
            Kit.due("version of " + o, x.object(o, 3), versions[o]);
            Kit.due("class of " + o, x.object(o, 2), classes[o]);
        }
        Kit.state(x, 2, LOADED);
        Kit.due("loads", x.loads(0), 4);
        x.other(0, 4, 0, 9);
        Kit.due("not the row's version", x.object(3, 3), 1);
    }

    private static void valuing() {
        Sentences.promise(16, "Long.MIN_VALUE: no such object (GONE, DROPPED ones, too), member, or it is a list.");
        BeeRegister x = six();
        for (int o : NO_OBJECTS) {
            Kit.due("value(" + o + ", 0)", x.value(o, 0), NO_VALUE);
        }
        Kit.due("dropped", x.value(0, 0), NO_VALUE);
        Kit.due("gone", x.value(5, 0), NO_VALUE);
        for (int m : new int[] {-1, 3, 16, Integer.MAX_VALUE, Integer.MIN_VALUE}) {
            Kit.due("value(1, " + m + ")", x.value(1, m), NO_VALUE);
        }
        Kit.due("the heir's member", x.value(3, 3), NONE);
        Kit.due("a list", x.value(1, 2), NO_VALUE);

        Sentences.promise(16, "The value of a member; of a reference the object that it leads to (met), "
                + "NONE if it is EMPTY, -2 if the UNIT has 60.");
        Kit.due("a value", x.value(1, 0), 0);
        Kit.due("empty", x.value(4, 1), NONE);
        Kit.due("a stand", x.value(1, 1), 2);
        Kit.state(x, 2, STAND);
        x.unit();
        x.find(1, 0, 1);
        fill(x, 1);
        Kit.due("without room", x.value(100, 1), FULL);
        x.link(100, 1, 100);
        Kit.due("without need of room", x.value(100, 1), 100);
        x.link(100, 1, NONE);
        Kit.due("empty in a full unit", x.value(100, 1), NONE);
        x.link(3, 1, 4);
        x.drop(4);
        Kit.due("one that is gone", x.value(3, 1), 4);
    }

    private static void putting() {
        Sentences.promise(17, "A member that is no reference becomes v: true; "
                + "false, and nothing happens: no such object, member, or value.");
        BeeRegister x = six();
        Kit.due("put", x.put(1, 0, -128), true);
        for (int o : NO_OBJECTS) {
            Kit.due("put(" + o + ", 0, 1)", x.put(o, 0, 1), false);
        }
        Kit.due("dropped", x.put(0, 0, 1), false);
        Kit.due("gone", x.put(5, 0, 1), false);
        for (int m : new int[] {-1, 3, 16, Integer.MAX_VALUE, Integer.MIN_VALUE}) {
            Kit.due("put(1, " + m + ", 1)", x.put(1, m, 1), false);
        }
        Kit.due("a reference", x.put(1, 1, 1), false);
        Kit.due("a list", x.put(1, 2, 1), false);
        for (int v : new int[] {-129, 128, 128 + 256, Integer.MAX_VALUE, Integer.MIN_VALUE}) {
            Kit.due("put(1, 0, " + v + ")", x.put(1, 0, v), false);
        }
        Kit.due("the value stays", x.value(1, 0), -128);
        Kit.due("the reference stays", x.value(1, 1), 2);
        x.put(1, 0, 0);
        x.close(0, 1);
        Kit.due("the new one", x.write(0, 0), 0);
        Kit.due("the dropped one", x.write(1, 0), 2);
        Kit.due("nothing else is written", x.write(2, 0), NONE);
    }

    private static void linking() {
        Sentences.promise(18, "A reference leads to another object of the UNIT (NONE: it is EMPTY): true");
        BeeRegister x = six();
        Kit.due("a new one", x.link(1, 1, 4), true);
        Kit.due("value", x.value(1, 1), 4);
        Kit.due("empty", x.link(1, 1, NONE), true);
        Kit.due("value", x.value(1, 1), NONE);
        Kit.due("empty again", x.link(1, 1, NONE), true);
        Kit.due("itself", x.link(1, 1, 1), true);
        Kit.due("value", x.value(1, 1), 1);

        Sentences.promise(18, "false, and nothing happens: no such object, reference; the other one is none, "
                + "is GONE or DROPPED, or is of no class that IS the one told (a STAND is LOADED).");
        for (int o : NO_OBJECTS) {
            Kit.due("link(" + o + ", 1, 1)", x.link(o, 1, 1), false);
            Kit.due("link(" + o + ", 1, NONE)", x.link(o, 1, NONE), false);
            Kit.due("link(1, 1, " + o + ")", x.link(1, 1, o), o == NONE);
            x.link(1, 1, 1);
        }
        Kit.due("dropped", x.link(0, 1, 1), false);
        Kit.due("gone", x.link(5, 1, 1), false);
        for (int m : new int[] {-1, 0, 2, 3, 16, Integer.MAX_VALUE, Integer.MIN_VALUE}) {
            Kit.due("link(1, " + m + ", 1)", x.link(1, m, 1), false);
            Kit.due("link(1, " + m + ", NONE)", x.link(1, m, NONE), false);
        }
        Kit.due("to none", x.link(1, 1, -2), false);
        Kit.due("to a dropped one", x.link(1, 1, 0), false);
        Kit.due("to one that is gone", x.link(1, 1, 5), false);
        x.unit();
        x.make(1, 0);
        Kit.due("to another unit's", x.link(1, 1, 100), false);
        Kit.due("it stays", x.value(1, 1), 1);
    }

    private static void linkingStands() {
        Sentences.promise(18, "or is of no class that IS the one told (a STAND is LOADED).");
        BeeRegister x = six();
        Kit.due("empty", x.value(3, 3), NONE);
        Kit.due("a stand of the class above", x.link(3, 3, 2), false);
        Kit.state(x, 2, LOADED);
        Kit.due("loads", x.loads(0), 4);
        Kit.due("a loaded one of the class above", x.link(3, 3, 1), false);
        Kit.due("a new one of the class above", x.link(3, 3, 4), false);
        Kit.due("nothing happened", x.value(3, 3), NONE);
        Kit.due("the heir itself", x.link(3, 3, 3), true);
        x = six();
        Kit.due("a stand of the class", x.link(1, 1, 2), true);
        Kit.state(x, 2, LOADED);
    }

    private static void counting() {
        Sentences.promise(19, "How many are in a list; NONE: no such object, or list.");
        BeeRegister x = six();
        Kit.due("none", x.size(4, 2), 0);
        Kit.due("of a stand's list, without the dropped one", x.size(2, 2), 2);
        for (int o : NO_OBJECTS) {
            Kit.due("size(" + o + ", 2)", x.size(o, 2), NONE);
        }
        Kit.due("dropped", x.size(0, 2), NONE);
        Kit.due("gone", x.size(5, 2), NONE);
        for (int m : new int[] {-1, 0, 1, 3, 16, Integer.MAX_VALUE, Integer.MIN_VALUE}) {
            Kit.due("size(1, " + m + ")", x.size(1, m), NONE);
        }
        x.unit();
        for (int i = 0; i < 60; i++) {
            x.make(1, 0);
            x.link(100 + i, 1, 100);
        }
        Kit.due("a full unit's", x.size(100, 2), 60);
    }

    private static void picking() {
        Sentences.promise(20, "The i-th of them (met); NONE: there is none such; -2: the UNIT has 60.");
        BeeRegister x = six();
        Kit.due("the first one", x.item(2, 2, 0), 1);
        Kit.due("the last one", x.item(2, 2, 1), 3);
        for (int i : new int[] {-1, 2, 60, Integer.MAX_VALUE, Integer.MIN_VALUE}) {
            Kit.due("item(2, 2, " + i + ")", x.item(2, 2, i), NONE);
        }
        Kit.due("of an empty list", x.item(4, 2, 0), NONE);
        for (int o : NO_OBJECTS) {
            Kit.due("item(" + o + ", 2, 0)", x.item(o, 2, 0), NONE);
        }
        Kit.due("dropped", x.item(0, 2, 0), NONE);
        Kit.due("gone", x.item(5, 2, 0), NONE);
        for (int m : new int[] {-1, 0, 1, 3, 16, Integer.MAX_VALUE, Integer.MIN_VALUE}) {
            Kit.due("item(1, " + m + ", 0)", x.item(1, m, 0), NONE);
        }
        x.unit();
        x.find(1, 0, 3);
        Kit.due("one comes", x.item(100, 2, 1), 101);
        Kit.state(x, 101, STAND);
        fill(x, 1);
        Kit.due("no room", x.item(100, 2, 0), FULL);
        Kit.due("no room is needed", x.item(100, 2, 1), 101);
        Kit.due("none such in a full unit", x.item(100, 2, 3), NONE);
    }

    private static void dropping() {
        Sentences.promise(21, "It is DROPPED: how many were by this; "
                + "NONE: no such object (GONE, DROPPED ones, too; a STAND is LOADED)");
        BeeRegister x = six();
        for (int o : NO_OBJECTS) {
            Kit.due("drop(" + o + ")", x.drop(o), NONE);
        }
        Kit.due("dropped", x.drop(0), NONE);
        Kit.due("gone", x.drop(5), NONE);
        Kit.state(x, 0, DROPPED);
        Kit.state(x, 5, GONE);
        Kit.due("a stand", x.drop(2), 1);
        Kit.state(x, 2, DROPPED);
        Kit.due("it was loaded", x.loads(0), 4);
        Kit.due("its version", x.object(2, 3), 1);
        Kit.due("a new one", x.drop(4), 1);
        Kit.state(x, 4, GONE);
        Kit.due("a loaded one", x.drop(1), 1);
        Kit.state(x, 1, DROPPED);
        Kit.due("again", x.drop(1), NONE);
    }

    private static void droppingWithoutRoom() {
        Sentences.promise(21, "-2: the UNIT has 60, and something can't be met "
                + "(nothing is DROPPED; what was met stays so).");
        BeeRegister x = Kit.mapped("class A { a : to A owned ; l : list A by b owned ; b : to A ; }");
        x.unit();
        for (int i = 0; i < 5; i++) {
            x.make(0, 0);
        }
        x.link(0, 0, 1);
        x.link(2, 2, 0);
        x.link(3, 2, 0);
        x.link(1, 0, 4);
        x.close(0, 1);
        x.unit();
        x.find(0, 0, 1);
        for (int i = 0; i < 56; i++) {
            x.make(0, 0);
        }
        Kit.due("room for three of four", x.drop(0), FULL);
        Kit.state(x, 0, LOADED);
        Kit.state(x, 1, NEW);
        for (int i = 0; i < 3; i++) {
            Kit.state(x, 57 + i, LOADED);
            Kit.due("key of what was met", x.object(57 + i, 1), 2 + i);
        }
        Kit.due("loads", x.loads(0), 4);
        Kit.due("again", x.drop(0), FULL);
        Kit.due("what leads there can't be dropped, either", x.drop(57), FULL);
        Kit.due("what owns nothing can", x.drop(58), 1);
        x.link(57, 0, NONE);
        Kit.due("all that is left", x.drop(0), 3);
        Kit.state(x, 57, DROPPED);
        x.unit();
        x.find(1, 0, 1);
        for (int i = 0; i < 57; i++) {
            x.make(1, 0);
        }
        Kit.due("room for one of two in a list", x.drop(100), FULL);
        Kit.state(x, 100, LOADED);
        Kit.state(x, 158, LOADED);
        Kit.state(x, 159, LOADED);
        Kit.due("key of what was met", x.object(159, 1), 3);
    }

    private static void loads() {
        Sentences.promise(22, "How many rows the UNIT LOADED; NONE: no such UNIT.");
        BeeRegister x = six();
        for (int unit : NO_UNITS) {
            Kit.due("loads(" + unit + ")", x.loads(unit), NONE);
        }
        Kit.due("of three rows", x.loads(0), 3);
        x.unit();
        Kit.due("none yet", x.loads(1), 0);
        x.make(1, 0);
        x.flush(1);
        Kit.due("what it wrote is not loaded", x.loads(1), 0);
        x.close(1, 0);
        Kit.due("closed", x.loads(1), NONE);
        x.close(0, 0);
        x.unit();
        Kit.due("opened again", x.loads(0), 0);
    }
}
