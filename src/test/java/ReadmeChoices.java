import java.util.ArrayList;
import java.util.List;

/** What README.md tells of the choices that the document leaves: each of them is quoted by a test. */
final class ReadmeChoices {
    private static final int NONE = BeeRegister.NONE;
    private static final int STAND = 0;
    private static final int LOADED = 1;
    private static final int DROPPED = 3;
    private static final int GONE = 4;
    private static final String HEADING = "## Where the document leaves a choice";

    private static final List<String> untested = new ArrayList<>();

    private ReadmeChoices() {
    }

    static void run(String readme) {
        readChoices(readme);
        loadingFirst();
        noSuchObject();
        closing();
        dropping();
        finding();
        latestWriting();
        unknownClass();
        pathThroughValue();
        brokenOff();
        Kit.about("");
        for (String choice : untested) {
            Kit.due("no test of the choice \"" + choice + "\"", 0, 1);
        }
    }

    private static void readChoices(String readme) {
        int start = readme.indexOf(HEADING);
        Kit.due("the choices' heading", start >= 0, true);
        String section = start < 0 ? "" : readme.substring(start + HEADING.length());
        for (String choice : section.split("\n- ")) {
            if (!choice.isBlank()) {
                untested.add(choice.replaceAll("\\s+", " ").trim());
            }
        }
    }

    private static void choice(String sentence) {
        Kit.about("README.md, \"" + sentence + "\"");
        Kit.due("the page's words", untested.remove(sentence), true);
    }

    /** Rows 1 and 2 of A, of which 1 leads to 2; object 0 of unit 0 is row 1, object 1 a stand for row 2. */
    private static BeeRegister rowAndStand() {
        BeeRegister x = Kit.mapped("class A { n : small ; a : to A ; l : list A by a ; }");
        x.unit();
        x.make(0, 0);
        x.make(0, 0);
        x.link(0, 1, 1);
        x.close(0, 1);
        x.unit();
        x.find(0, 0, 1);
        x.value(0, 1);
        Kit.state(x, 0, LOADED);
        Kit.state(x, 1, STAND);
        return x;
    }

    private static void isLoaded(String call, BeeRegister x) {
        Kit.due("the state behind " + call, x.object(1, 0), LOADED);
        Kit.due("the loads behind " + call, x.loads(0), 2);
    }

    private static void loadingFirst() {
        choice("A call for a member, a value or a list of an object that is not loaded yet loads it first, "
                + "even if the call is then refused: only the row tells what members there are.");
        BeeRegister x = rowAndStand();
        Kit.due("value", x.value(1, 9), Long.MIN_VALUE);
        isLoaded("value", x);
        x = rowAndStand();
        Kit.due("put", x.put(1, 0, 128), false);
        isLoaded("put", x);
        x = rowAndStand();
        Kit.due("link", x.link(1, 0, 0), false);
        isLoaded("link", x);
        x = rowAndStand();
        Kit.due("size", x.size(1, 1), NONE);
        isLoaded("size", x);
        x = rowAndStand();
        Kit.due("item", x.item(1, 2, 5), NONE);
        isLoaded("item", x);
    }

    private static void noSuchObject() {
        choice("For `put`, `link`, `size` and `item`, too, an object that is dropped or gone is no such object.");
        BeeRegister x = rowAndStand();
        x.make(0, 0);
        Kit.due("one is dropped", x.drop(1), 1);
        Kit.due("one is gone", x.drop(2), 1);
        Kit.state(x, 1, DROPPED);
        Kit.state(x, 2, GONE);
        for (int o = 1; o <= 2; o++) {
            Kit.due("put(" + o + ", ..)", x.put(o, 0, 1), false);
            Kit.due("link(" + o + ", ..)", x.link(o, 1, 0), false);
            Kit.due("size(" + o + ", ..)", x.size(o, 2), NONE);
            Kit.due("item(" + o + ", ..)", x.item(o, 2, 0), NONE);
        }
    }

    private static void closing() {
        choice("`close(unit, 0)` answers 0 and is no writing.");
        BeeRegister x = Kit.mapped("class A { n : whole unique ; }");
        x.unit();
        x.make(0, 0);
        x.make(0, 0);
        Kit.due("two that are alike", x.flush(0), 1);
        Kit.due("close", x.close(0, 0), 0);
        Kit.came(x, 1, 0, 2, 0, 1);
        Kit.wrote(x, 0, 0, 0, 1, 0);
    }

    private static void dropping() {
        choice("`drop` counts the new objects that are gone by it, too.");
        BeeRegister x = Kit.mapped("class A { a : to A owned ; }");
        x.unit();
        x.make(0, 0);
        Kit.due("written", x.flush(0), 0);
        x.make(0, 0);
        x.link(0, 0, 1);
        Kit.due("a loaded and a new one", x.drop(0), 2);
        Kit.state(x, 0, DROPPED);
        Kit.state(x, 1, GONE);
    }

    private static void finding() {
        choice("`find` answers an object that the unit has loaded, even if its row was deleted by another unit since; "
                + "an object that is not loaded yet and has no row any more stays as it is.");
        BeeRegister x = rowAndStand();
        x.unit();
        x.find(1, 0, 1);
        x.find(1, 0, 2);
        x.drop(100);
        x.drop(101);
        Kit.due("deleted", x.flush(1), 0);
        Kit.due("the one that was loaded", x.find(0, 0, 1), 0);
        Kit.due("the other one", x.find(0, 0, 2), NONE);
        Kit.state(x, 0, LOADED);
        Kit.state(x, 1, STAND);
    }

    private static void latestWriting() {
        choice("`outcome` and `write` still tell the latest writing behind `map()`.");
        BeeRegister x = Kit.mapped("class A { n : whole unique ; }");
        x.unit();
        x.make(0, 0);
        x.make(0, 0);
        Kit.due("two that are alike", x.flush(0), 1);
        Kit.due("map()", Kit.map(x, "class B { }"), 1);
        Kit.came(x, 1, 0, 2, 0, 1);
        Kit.wrote(x, 0, 0, 0, 1, 0);
    }

    private static void unknownClass() {
        choice("A question about a NAME that is no class has fault 3.");
        BeeRegister x = Kit.mapped("class A { }");
        x.unit();
        Kit.refusedQuestion(x, 0, " ^B where", 3);
    }

    private static void pathThroughValue() {
        choice("In a path, a member with a \".\" behind it that is no reference has fault 3, at its own place.");
        BeeRegister x = Kit.mapped("class A { n : small ; a : to A ; l : list A by a ; }");
        x.unit();
        Kit.refusedQuestion(x, 0, "A where ^n . n = 1", 3);
        Kit.refusedQuestion(x, 0, "A where a . ^l . n = 1", 3);
        Kit.refusedQuestion(x, 0, "A where empty ^n .", 3);
    }

    private static void brokenOff() {
        choice("`found` still tells the rows of the question ahead when an `ask` is broken off by its writing.");
        BeeRegister x = Kit.mapped("class A { n : whole unique ; }");
        x.unit();
        x.make(0, 0);
        Kit.told(x, 0, "A", 1);
        x.make(0, 0);
        Kit.due("one that is alike", Kit.ask(x, 0, "A where n = 1"), -11);
        Kit.due("found(0)", x.found(0), 1);
        Kit.due("found(1)", x.found(1), NONE);
    }
}
