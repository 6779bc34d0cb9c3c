/** The edges of Terms 5 and of promises 24 to 27: tables, questions, and what is counted. */
final class TableEdges {
    private static final int NONE = BeeRegister.NONE;
    private static final long MISSING = -4294967296L;
    private static final long NO_CELL = Long.MIN_VALUE;
    private static final int[] NO_UNITS = {-1, 1, 3, 4, Integer.MAX_VALUE, Integer.MIN_VALUE};

    private TableEdges() {
    }

    static void run() {
        wayOne();
        wayJoined();
        wayOwn();
        questions();
        paths();
        operands();
        open();
        about();
        emptyPaths();
        truths();
        toldInOrder();
        cells();
        asking();
        askingRefused();
        askingBrokenOff();
        founding();
        counting();
    }

    /** R 1, and of one family A 1, B 2 (of A), C 3 (of B), D 4 (of A); S stands between them in the text. */
    private static BeeRegister family(String way) {
        BeeRegister x = Kit.mapped("class R { } class A" + way + " { n : whole ; l : list A by a ; a : to A ; } "
                + "class B of A { s : small ; } class S { f : flag ; } class C of B { e : ( p , q ) ; "
                + "k : list A by a ; w : whole ; } class D of A { f : flag ; }");
        x.unit();
        int[] classes = {1, 2, 4, 5, 0};
        for (int i = 0; i < 5; i++) {
            x.make(0, classes[i]);
            x.put(i, 0, 10 + i);
            x.link(i, 2, 0);
        }
        x.put(1, 3, -128);
        x.put(2, 3, 127);
        x.put(2, 4, 1);
        x.put(2, 6, Integer.MIN_VALUE);
        x.put(3, 3, 1);
        Kit.due("flush", x.flush(0), 0);
        return x;
    }

    private static void row(BeeRegister x, int c, int key, long... cells) {
        for (int i = 0; i < cells.length; i++) {
            Kit.due("cell(" + c + ", " + key + ", " + i + ")", x.cell(c, key, i), cells[i]);
        }
        for (int column : new int[] {cells.length, -1, Integer.MAX_VALUE, Integer.MIN_VALUE}) {
            Kit.due("cell(" + c + ", " + key + ", " + column + ")", x.cell(c, key, column), NO_CELL);
        }
    }

    private static void wayOne() {
        Sentences.term(5, "Way \"one\": one table for the ROOT, columns: 0 the class, 1 the VERSION, then all members "
                + "(but lists) of all classes of the FAMILY, class by class as told, each its own; "
                + "what a row's class has not is MISSING.");
        BeeRegister x = family("");
        for (int c : new int[] {1, 2, 4, 5}) {
            row(x, c, 1, 1, 1, 10, 1, MISSING, MISSING, MISSING, MISSING);
            row(x, c, 2, 2, 1, 11, 1, -128, MISSING, MISSING, MISSING);
            row(x, c, 3, 4, 1, 12, 1, 127, 1, Integer.MIN_VALUE, MISSING);
            row(x, c, 4, 5, 1, 13, 1, MISSING, MISSING, MISSING, 1);
        }
        row(x, 0, 1, 0, 1);
    }

    private static void wayJoined() {
        Sentences.term(5, "\"joined\": a table for each class: of the ROOT 0 the class, 1 the VERSION, "
                + "then its own members; of others their own members; a row is in those of all that its class IS.");
        BeeRegister x = family(" way joined");
        int[] classes = {0, 1, 2, 4, 5};
        for (int key = 1; key <= 4; key++) {
            row(x, 1, key, classes[key], 1, 9 + key, 1);
        }
        row(x, 2, 1);
        row(x, 2, 2, -128);
        row(x, 2, 3, 127);
        row(x, 2, 4);
        row(x, 4, 2);
        row(x, 4, 3, 1, Integer.MIN_VALUE);
        row(x, 5, 3);
        row(x, 5, 4, 1);
    }

    private static void wayOwn() {
        Sentences.term(5, "\"own\": a table for each class: 0 the VERSION, then its members, those of the ROOT first; "
                + "a row is in that of its class.");
        BeeRegister x = family(" way own");
        row(x, 1, 1, 1, 10, 1);
        row(x, 1, 2);
        row(x, 1, 4);
        row(x, 2, 1);
        row(x, 2, 2, 1, 11, 1, -128);
        row(x, 2, 3);
        row(x, 4, 2);
        row(x, 4, 3, 1, 12, 1, 127, 1, Integer.MIN_VALUE);
        row(x, 5, 4, 1, 13, 1, 1);
    }

    private static void questions() {
        Sentences.term(5, "A question: CLASS [\"where\" or].");
        BeeRegister x = family("");
        Kit.told(x, 0, "A", 1, 2, 3, 4);
        Kit.told(x, 0, " A ", 1, 2, 3, 4);
        Kit.told(x, 0, "S");
        Kit.refusedQuestion(x, 0, "^", 2);
        Kit.refusedQuestion(x, 0, "   ^", 2);
        Kit.refusedQuestion(x, 0, "^where", 2);
        Kit.refusedQuestion(x, 0, "^Z", 3);
        Kit.refusedQuestion(x, 0, "^n where n = 1", 3);
        Kit.refusedQuestion(x, 0, "A ^A", 2);
        Kit.refusedQuestion(x, 0, "A where^", 2);
        Kit.refusedQuestion(x, 0, "A where ^where", 2);
        Sentences.term(5, "or = and {\"or\" and}. and = no {\"and\" no}.");
        Kit.told(x, 0, "A where n = 10 or n = 11 and n = 12", 1);
        Kit.told(x, 0, "A where n = 12 and n = 11 or n = 10", 1);
        Kit.told(x, 0, "A where n = 10 or empty a or n = 11", 1, 2);
        Kit.told(x, 0, "A where n = 10 and not empty a", 1);
        Kit.refusedQuestion(x, 0, "A where n = 1 or^", 2);
        Kit.refusedQuestion(x, 0, "A where ^and n = 1", 2);
        Kit.refusedQuestion(x, 0, "A where n = 1 ^n = 1", 2);
        Kit.refusedQuestion(x, 0, "A where n = 1 ^not n = 1", 2);
        Kit.refusedQuestion(x, 0, "A where n = 1 and ^or", 2);
        Sentences.term(5, "no = \"not\" no | \"(\" or \")\" | \"empty\" path | path (\"=\" | \"<\" | \">\") "
                + "([\"-\"] NUMBER | NAME).");
        Kit.told(x, 0, "A where not ( n = 10 or n = 13 )", 2, 3);
        Kit.told(x, 0, "B where s = - 128", 2);
        Kit.told(x, 0, "B where s > -128", 3);
        Kit.told(x, 0, "B where s < -999999");
        Kit.told(x, 0, "A where n < 999999", 1, 2, 3, 4);
        Kit.refusedQuestion(x, 0, "A where ( n = 1^", 2);
        Kit.refusedQuestion(x, 0, "A where ( n = 1 ) ^)", 2);
        Kit.refusedQuestion(x, 0, "A where ( ^)", 2);
        Kit.refusedQuestion(x, 0, "A where not^", 2);
        Kit.refusedQuestion(x, 0, "A where n = - ^?", 1);
        Kit.refusedQuestion(x, 0, "A where n = - ^- 1", 2);
        Kit.refusedQuestion(x, 0, "A where n = - ^p", 2);
        Kit.refusedQuestion(x, 0, "A where n = ^+ 1", 2);
        Kit.refusedQuestion(x, 0, "A where n = ^1000000", 1);
        Kit.refusedQuestion(x, 0, "A where n ^: 1", 2);
        Kit.refusedQuestion(x, 0, "A where empty a ^= 1", 2);
    }

    private static void paths() {
        Sentences.term(5, "path = NAME {\".\" NAME}: members, all but the last references "
                + "(each of the class that the one ahead leads to); the last one no list, with \"empty\" a reference, "
                + "else none;");
        BeeRegister x = family("");
        Kit.told(x, 0, "C where a.a.n = 10", 3);
        Kit.told(x, 0, "C where not empty a.a", 3);
        Kit.refusedQuestion(x, 0, "A where ^x = 1", 3);
        Kit.refusedQuestion(x, 0, "A where ^s = 1", 3);
        Kit.refusedQuestion(x, 0, "A where ^n . n = 1", 3);
        Kit.refusedQuestion(x, 0, "A where ^l . n = 1", 3);
        Kit.refusedQuestion(x, 0, "A where a . ^x = 1", 3);
        Kit.refusedQuestion(x, 0, "C where a . ^w = 1", 3);
        Kit.refusedQuestion(x, 0, "A where a .^", 2);
        Kit.refusedQuestion(x, 0, "A where a . ^. n = 1", 2);
        Kit.refusedQuestion(x, 0, "A where ^l = 1", 3);
        Kit.refusedQuestion(x, 0, "A where a . ^l = 1", 3);
        Kit.refusedQuestion(x, 0, "A where empty ^l", 3);
        Kit.refusedQuestion(x, 0, "A where empty ^n", 3);
        Kit.refusedQuestion(x, 0, "A where empty a . ^n", 3);
        Kit.refusedQuestion(x, 0, "A where empty ^n . a", 3);
        Kit.refusedQuestion(x, 0, "A where ^a = 1", 3);
        Kit.refusedQuestion(x, 0, "A where a . ^a > 0", 3);
    }

    private static void operands() {
        Sentences.term(5, "NAME behind the sign is one of that member's names (3).");
        BeeRegister x = family("");
        Kit.told(x, 0, "C where e = q", 3);
        Kit.told(x, 0, "C where e = 1", 3);
        Kit.told(x, 0, "C where e > p and e < 2", 3);
        Kit.told(x, 0, "C where e = p");
        Kit.refusedQuestion(x, 0, "C where e = ^r", 3);
        Kit.refusedQuestion(x, 0, "C where e = ^e", 3);
        Kit.refusedQuestion(x, 0, "C where w = ^p", 3);
        Kit.refusedQuestion(x, 0, "C where n = ^q", 3);
        x = Kit.mapped("class A { e : ( p , q ) ; g : ( r , p , s ) ; }");
        x.unit();
        x.make(0, 0);
        x.put(0, 1, 1);
        Kit.told(x, 0, "A where g = p and e = p", 1);
        Kit.told(x, 0, "A where g < s and g > r", 1);
        Kit.refusedQuestion(x, 0, "A where g = ^q", 3);
        Kit.refusedQuestion(x, 0, "A where e = ^r", 3);
    }

    private static void open() {
        Sentences.term(5, "At most 20 ( and \"not\" are open in one another "
                + "(4, at it; ( till its ), \"not\" till its end).");
        BeeRegister x = family("");
        String head = "A where ";
        Kit.told(x, 0, head + "( ".repeat(20) + "n = 10" + " )".repeat(20), 1);
        Kit.told(x, 0, head + "not ".repeat(20) + "n = 10", 1);
        Kit.told(x, 0, head + "not ( ".repeat(10) + "n = 10" + " )".repeat(10), 1);
        Kit.refusedQuestion(x, 0, head + "( ".repeat(20) + "^( n = 10" + " )".repeat(21), 4);
        Kit.refusedQuestion(x, 0, head + "not ".repeat(20) + "^not n = 10", 4);
        Kit.refusedQuestion(x, 0, head + "not ( ".repeat(10) + "^not n = 10", 4);
        Kit.refusedQuestion(x, 0, head + "not ( ".repeat(10) + "^( ?", 4);
        Kit.told(x, 0, head + "( ".repeat(19) + "( n = 10 ) or ( n = 11 )" + " )".repeat(19), 1, 2);
        Kit.told(x, 0, head + "( ".repeat(19) + "not n = 10 and not n = 11" + " )".repeat(19), 3, 4);
        Kit.told(x, 0, head + "not ".repeat(19) + "( n = 10 ) or " + "not ".repeat(20) + "n = 10", 1, 2, 3, 4);
        Kit.told(x, 0, head + "not ( not n = 11 ) and ".repeat(20) + "not ( not n = 11 )", 2);
        Kit.refusedQuestion(x, 0, head + "( ".repeat(19) + "not n = 10 and not ^( n = 11", 4);
        Kit.refusedQuestion(x, 0, head + "not ".repeat(19) + "( n = 10 and ^( n = 11", 4);
        Kit.refusedQuestion(x, 0, head + "( ".repeat(20) + "n = 1 and n = 2 or n = 3 or n = 4 and ^( n = 5", 4);
        Kit.refusedQuestion(x, 0, head + "( ".repeat(20) + "n = 1 and n = 2 and ^not n = 5", 4);
        String waits = "n = 0 or n = 10 and ( ";
        Kit.told(x, 0, head + waits.repeat(20) + "n = 0 or n = 10 and n = 10" + " )".repeat(20), 1);
    }

    private static void about() {
        Sentences.term(5, "It is about rows of classes that ARE the one told.");
        BeeRegister x = family("");
        Kit.told(x, 0, "A where n > 0", 1, 2, 3, 4);
        Kit.told(x, 0, "B where n > 0", 2, 3);
        Kit.told(x, 0, "C where n > 0", 3);
        Kit.told(x, 0, "D", 4);
        Kit.told(x, 0, "R", 1);
    }

    /** Rows 1 (empty), 2 (leads to 1), 3 (leads to 2). */
    private static BeeRegister chain() {
        BeeRegister x = UnitEdges.chained(3);
        x.unit();
        return x;
    }

    private static void emptyPaths() {
        Sentences.term(5, "a path through an EMPTY reference is unknown "
                + "(\"empty\" of one that is EMPTY at its end: true; ahead of that: unknown)");
        BeeRegister x = chain();
        Kit.told(x, 0, "A where a.n = 0", 2);
        Kit.told(x, 0, "A where not a.n = 0", 3);
        Kit.told(x, 0, "A where a.a.n < 5", 3);
        Kit.told(x, 0, "A where not a.a.n < 5");
        Kit.told(x, 0, "A where empty a", 1);
        Kit.told(x, 0, "A where not empty a", 2, 3);
        Kit.told(x, 0, "A where empty a.a", 2);
        Kit.told(x, 0, "A where not empty a.a", 3);
        Kit.told(x, 0, "A where empty a.a.a", 3);
        Kit.told(x, 0, "A where not empty a.a.a");
    }

    private static void truths() {
        Sentences.term(5, "\"not\" of unknown is; \"and\" is false if one is, else unknown if one is; "
                + "\"or\" likewise with true.");
        BeeRegister x = Kit.mapped("class A { n : whole ; a : to A ; }");
        x.unit();
        x.make(0, 0);
        String[] terms = {"n = 1", "a.n = 0", "n = 0"};
        for (int i = 0; i < 3; i++) {
            truth(x, "( " + terms[i] + " )", i);
            truth(x, "not " + terms[i], 2 - i);
            for (int k = 0; k < 3; k++) {
                truth(x, "( " + terms[i] + " and " + terms[k] + " )", Math.min(i, k));
                truth(x, "( " + terms[i] + " or " + terms[k] + " )", Math.max(i, k));
            }
        }
    }

    /** 0 false, 1 unknown, 2 true: only "not" of what is false is true, too. */
    private static void truth(BeeRegister x, String term, int truth) {
        Kit.due(term, Kit.ask(x, 0, "A where " + term), truth == 2 ? 1 : 0);
        Kit.due("not " + term, Kit.ask(x, 0, "A where not " + term), truth == 0 ? 1 : 0);
    }

    private static void toldInOrder() {
        Sentences.term(5, "Told are the rows for which it is true (all, without \"where\"), in order of KEYS.");
        BeeRegister x = Kit.mapped("class A { n : whole ; } class B of A { }");
        x.unit();
        for (int i = 0; i < 60; i++) {
            x.make(0, (i + 1) % 2);
            x.put(i, 0, i);
        }
        Kit.due("all", Kit.ask(x, 0, "A"), 60);
        for (int i = 0; i < 60; i++) {
            Kit.due("found(" + i + ")", x.found(i), i + 1);
        }
        Kit.told(x, 0, "A where n > 55", 57, 58, 59, 60);
        Kit.told(x, 0, "B where n > 55", 57, 59);
        Kit.told(x, 0, "A where n > 59");
    }

    private static void cells() {
        Sentences.promise(24, "-2^32 MISSING; Long.MIN_VALUE if there is none such.");
        BeeRegister x = family("");
        Kit.due("missing", x.cell(1, 1, 4), -4294967296L);
        Kit.due("none such", x.cell(1, 1, 8), NO_CELL);
        int low = Integer.MIN_VALUE;
        int high = Integer.MAX_VALUE;
        for (int c : new int[] {-1, 3, 6, 12, low, high}) {
            Kit.due("cell(" + c + ", 1, 0)", x.cell(c, 1, 0), NO_CELL);
        }
        for (int key : new int[] {-1, 0, 5, 61, low, high}) {
            Kit.due("cell(1, " + key + ", 0)", x.cell(1, key, 0), NO_CELL);
        }
        for (int column : new int[] {-1, 8, 16, low, high}) {
            Kit.due("cell(1, 3, " + column + ")", x.cell(1, 3, column), NO_CELL);
        }
        Sentences.promise(24, "Of the table for class c (way \"one\": that of its ROOT), the row with a KEY, a column");
        Kit.due("of a class that the row is not", x.cell(5, 1, 2), 10);
        x.make(0, 1);
        Kit.due("no row yet", x.cell(1, 5, 0), NO_CELL);
        x.flush(0);
        Kit.due("a row", x.cell(1, 5, 0), 1);
        x.drop(5);
        x.flush(0);
        Kit.due("no row any more", x.cell(1, 5, 0), NO_CELL);
    }

    private static void asking() {
        Sentences.promise(25, "The TAPE, which is empty then, is read as a question, the UNIT is written first: "
                + "how many rows are told");
        BeeRegister x = Kit.mapped("class A { n : whole ; hook insert n + 5 ; }");
        x.unit();
        x.unit();
        x.make(0, 0);
        x.make(1, 0);
        Kit.told(x, 0, "A where n = 5", 1);
        Kit.due("the tape", x.end(1), NONE);
        Kit.due("it was written", x.object(0, 0), 1);
        Kit.due("the other one was not", x.object(100, 0), 2);
        Kit.wrote(x, 0, 0, 0, 1, 0);
        Kit.due("rows", x.count(2), 1);
        Kit.told(x, 1, "A where n < 5");
        Kit.due("rows", x.count(2), 2);
        Kit.told(x, 1, "A", 1, 2);
        Kit.due("it is open", x.count(1), 2);
    }

    private static void askingRefused() {
        Sentences.promise(25, "NONE: no such UNIT (the TAPE stays), or a FAULT (nothing is written)");
        BeeRegister x = Kit.mapped("class A { n : whole ; hook insert n + 5 ; }");
        x.unit();
        x.make(0, 0);
        Kit.tape(x, "A");
        for (int unit : NO_UNITS) {
            Kit.due("ask(" + unit + ")", x.ask(unit), NONE);
        }
        Kit.due("the tape stays", x.end(1), 1);
        Kit.due("it is asked", x.ask(0), 1);
        x.make(0, 0);
        String[] refused = {"A ^?", "A ^B", "^B", "A where ( ( ^m"};
        int[] faults = {1, 2, 3, 3};
        for (int i = 0; i < refused.length; i++) {
            Kit.refusedQuestion(x, 0, refused[i], faults[i]);
            Kit.due("the tape", x.end(1), NONE);
        }
        Kit.due("rows", x.count(2), 1);
        Kit.due("still new", x.object(1, 0), 2);
        Kit.due("no hook", x.value(1, 0), 0);
        Kit.wrote(x, 0, 0, 0, 1, 0);
    }

    private static void askingBrokenOff() {
        Sentences.promise(25, "-10 less the OUTCOME if that is not 0.");
        BeeRegister x = Kit.mapped("class A { m : to A must ; n : whole ; }");
        x.unit();
        x.make(0, 0);
        Kit.due("a rule", Kit.ask(x, 0, "A"), -11);
        Kit.due("the tape", x.end(1), NONE);
        Kit.due("no fault", x.fault(0), 0);
        x.make(0, 0);
        x.link(0, 0, 1);
        x.link(1, 0, 0);
        Kit.due("a circle", Kit.ask(x, 0, "A"), -14);
        x.link(0, 0, 0);
        x.link(1, 0, 1);
        Kit.told(x, 0, "A", 1, 2);
        x.other(0, 1, 1, 5);
        x.put(0, 1, 6);
        Kit.due("another version", Kit.ask(x, 0, "A"), -12);
        Kit.due("the unit is closed", x.count(1), 0);
        x.unit();
        for (int i = 0; i < 58; i++) {
            x.make(0, 0);
            x.link(i, 0, i);
        }
        Kit.due("sixty rows", Kit.ask(x, 0, "A"), 60);
        x.make(0, 0);
        Kit.due("no room", Kit.ask(x, 0, "A"), -15);
        Kit.due("the unit stays", x.count(1), 1);
    }

    private static void founding() {
        Sentences.promise(26, "The KEY of the i-th row that the latest ask() told; NONE if there is none such "
                + "(none behind map(); those ahead of a question that is refused stay).");
        BeeRegister x = chain();
        Kit.due("ahead of any", x.found(0), NONE);
        Kit.told(x, 0, "A where n > 0", 2, 3);
        for (int i : new int[] {-1, 2, 59, 60, Integer.MAX_VALUE, Integer.MIN_VALUE}) {
            Kit.due("found(" + i + ")", x.found(i), NONE);
        }
        Kit.refusedQuestion(x, 0, "A where n > 0 ^?", 1);
        Kit.due("a fault", x.found(1), 3);
        x.ask(1);
        Kit.due("no unit", x.found(1), 3);
        x.find(0, 0, 1);
        x.put(0, 0, 1);
        x.other(0, 1, 0, 2);
        Kit.due("broken off", Kit.ask(x, 0, "A"), -12);
        Kit.due("those ahead stay", x.found(1), 3);
        Kit.due("none behind them", x.found(2), NONE);
        Kit.map(x, "class");
        Kit.due("a text with a fault", x.found(0), 2);
        x.unit();
        Kit.told(x, 0, "A where n > 99");
        Kit.told(x, 0, "A", 1, 2, 3);
        Kit.map(x, "class A { }");
        Kit.due("behind map()", x.found(0), NONE);
    }

    private static void counting() {
        Sentences.promise(27, "0 classes, 1 UNITS that are open, 2 rows in all. NONE for another what.");
        BeeRegister x = family("");
        x.unit();
        int[] due = {6, 2, 5};
        for (int what = 0; what < 3; what++) {
            Kit.due("count(" + what + ")", x.count(what), due[what]);
        }
        for (int what : new int[] {-1, 3, Integer.MAX_VALUE, Integer.MIN_VALUE}) {
            Kit.due("count(" + what + ")", x.count(what), NONE);
        }
        x.close(1, 0);
        x.map();
        for (int what = 0; what < 3; what++) {
            Kit.due("behind map() of nothing", x.count(what), 0);
        }
    }
}
