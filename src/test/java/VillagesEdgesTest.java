/** The edges that the promises 1 to 6 name; each test bears the sentence that it is about. */
public final class VillagesEdgesTest extends Sentences {
    private void newObject() {
        sentence("1: two woods without villages: what there is", this::emptyWoods);
        sentence("1: two woods without villages: what can't be done with them", this::emptyRefused);
        sentence("1: two woods without villages: what can", this::emptyChanged);
    }

    private void emptyWoods() {
        for (int wood = 0; wood < 2; wood++) {
            told("count(" + wood + ", %d)", 0, 0, 0, 0, 0, 0, 0);
            told("range(" + wood + ", 0, 65535, %d)", 0, 0, 0, -1);
            is("miles(" + wood + ", 0)", -1);
            is("miles(" + wood + ", 65535)", -1);
            is("step(" + wood + ", 0, true)", -1);
            is("step(" + wood + ", 65535, false)", -1);
            is("near(" + wood + ", 0)", -1);
            is("far(" + wood + ")", -1);
            is("advise(" + wood + ")", -1);
            is("mean(" + wood + ")", 0.0);
        }
        told("would(%d)", 0, 0, 0, 0);
    }

    private void emptyRefused() {
        for (int wood = 0; wood < 2; wood++) {
            refused(STATE, "take(" + wood + ", 0)", "turn(" + wood + ", 0)", "walk(" + wood + ", 0, 0)");
            refused(INDEX, "at(" + wood + ", 0)", "sign(" + wood + ", 0, 0)");
        }
    }

    private void emptyChanged() {
        is("merge(0, 0)", 0);
        is("merge(1, 3)", 0);
        is("cut(0, 0)", 0);
        is("cut(1, 65535)", 0);
        woodsAre("wood 0:; wood 1:");
        is("put(1, 0, 0)", -1);
        woodsAre("wood 0:; wood 1: 0=0");
    }

    private void put() {
        sentence("2: sets the miles of one that is there", this::putSets);
        sentence("2: returns its miles before, 0 and 999 too", this::putBefore);
        sentence("2: returns -1 if there was none, after take too", this::putNone);
        sentence("2: villages stand by their names, whichever comes first", this::putInOrder);
        sentence("2: IndexOutOfBounds if wood is not 0 or 1",
            () -> refusedFor(INDEX, "put(%d, 0, 0)", NO_WOODS));
        sentence("2: IllegalArgument if name is not 0 to 65535",
            () -> refusedFor(ARGUMENT, "put(1, %d, 0)", NO_NAMES));
        sentence("2: IllegalArgument if miles is not 0 to 999",
            () -> refusedFor(ARGUMENT, "put(1, 0, %d)", NO_MILES));
        sentence("2: IllegalState if it would be the 25th of this wood", this::put25th);
        sentence("2: not the 25th if it is there, or in the other wood", this::putNot25th);
    }

    private void putSets() {
        villages(0, 4, 5, 6);
        is("put(0, 5, 999)", 2);
        woodsAre("wood 0: 4=1 5=999 6=3; wood 1:");
        is("put(0, 4, 0)", 1);
        is("put(0, 6, 6)", 3);
        woodsAre("wood 0: 4=0 5=999 6=6; wood 1:");
    }

    private void putBefore() {
        is("put(0, 65535, 0)", -1);
        is("put(0, 65535, 999)", 0);
        is("put(0, 65535, 999)", 999);
        is("put(0, 65535, 1)", 999);
        is("put(0, 65535, 1)", 1);
    }

    private void putNone() {
        is("put(0, 0, 0)", -1);
        is("put(1, 0, 5)", -1);
        is("take(0, 0)", 0);
        is("put(0, 0, 7)", -1);
        is("merge(0, 0)", 1);
        is("put(0, 0, 7)", -1);
        is("turn(0, 1)", 1);
        is("put(0, 0, 8)", -1);
    }

    private void putInOrder() {
        villages(0, 300, 65535, 0, 301, 299);
        woodsAre("wood 0: 0=3 299=5 300=1 301=4 65535=2; wood 1:");
    }

    private void put25th() {
        manyVillages(0, 1, 2, FULL - 1);
        is("put(0, 100, 24)", -1);
        refused(STATE, "put(0, 0, 1)", "put(0, 2, 1)", "put(0, 48, 1)", "put(0, 101, 1)", "put(0, 65535, 999)");
        is("count(0, 0)", FULL);
        is("miles(0, 100)", 24);
    }

    private void putNot25th() {
        manyVillages(0, 1, 2, FULL);
        is("put(0, 1, 999)", 1);
        is("put(0, 47, 999)", FULL);
        is("put(0, 25, 0)", 13);
        refused(STATE, "put(0, 2, 0)");
        is("put(1, 2, 0)", -1);
        is("take(0, 1)", 999);
        is("put(0, 2, 0)", -1);
        refused(STATE, "put(0, 1, 0)");
        is("count(0, 0)", FULL);
    }

    private void take() {
        sentence("3: returns its miles, 0 and 999 too", this::takeMiles);
        sentence("3: the smallest, the greatest, one between, the last one", this::takeEach);
        sentence("3: of a full wood", this::takeOfFull);
        sentence("3: IndexOutOfBounds if wood is not 0 or 1", this::takeNoWood);
        sentence("3: IllegalArgument if name is not 0 to 65535", this::takeNoName);
        sentence("3: IllegalState if there is no such village", this::takeNoVillage);
    }

    private void takeMiles() {
        is("put(0, 0, 0)", -1);
        is("put(0, 65535, 999)", -1);
        is("take(0, 0)", 0);
        is("take(0, 65535)", 999);
        woodsAre("wood 0:; wood 1:");
    }

    private void takeEach() {
        villages(0, 0, 7, 8, 65535);
        is("take(0, 7)", 2);
        woodsAre("wood 0: 0=1 8=3 65535=4; wood 1:");
        is("take(0, 65535)", 4);
        woodsAre("wood 0: 0=1 8=3; wood 1:");
        is("take(0, 0)", 1);
        woodsAre("wood 0: 8=3; wood 1:");
        is("take(0, 8)", 3);
        woodsAre("wood 0:; wood 1:");
    }

    private void takeOfFull() {
        manyVillages(1, 100, 100, FULL);
        is("take(1, 2400)", FULL);
        is("at(1, 22)", 2300);
        is("at(1, 23)", INDEX);
        is("put(1, 0, 0)", -1);
        is("take(1, 0)", 0);
        is("at(1, 0)", 100);
        for (int k = 1; k < FULL; k++) {
            is("take(1, " + 100 * k + ")", k);
        }
        woodsAre("wood 0:; wood 1:");
    }

    private void takeNoWood() {
        villages(0, 5);
        villages(1, 5);
        refusedFor(INDEX, "take(%d, 5)", NO_WOODS);
    }

    private void takeNoName() {
        villages(0, 0, 5, 65535);
        refusedFor(ARGUMENT, "take(0, %d)", NO_NAMES);
    }

    private void takeNoVillage() {
        refused(STATE, "take(0, 0)", "take(1, 65535)");
        villages(0, 5, 7);
        refused(STATE, "take(0, 4)", "take(0, 6)", "take(0, 8)", "take(0, 0)", "take(0, 65535)");
        refused(STATE, "take(1, 5)", "take(1, 7)");
        is("take(0, 5)", 1);
        refused(STATE, "take(0, 5)");
    }

    private void merge() {
        sentence("4: the other one has all villages of both then; this one has none", this::mergeAll);
        sentence("4: one of both, or both, without villages", this::mergeEmpty);
        sentence("4: rule 0, the miles as in this one", () -> mergeMiles(0, "1=3 2=600 3=0 4=7"));
        sentence("4: rule 1, the miles as in the other one", () -> mergeMiles(1, "1=4 2=500 3=999 4=7"));
        sentence("4: rule 2, both added, at most 999", () -> mergeMiles(2, "1=7 2=999 3=999 4=14"));
        sentence("4: rule 2, at 998, 999 and 1000", this::mergeAdded);
        sentence("4: rule 3, the smaller ones", () -> mergeMiles(3, "1=3 2=500 3=0 4=7"));
        sentence("4: the miles of those that are in one alone", this::mergeAlone);
        sentence("4: returns how many villages were in both", this::mergeCommon);
        sentence("4: IndexOutOfBounds if from is not 0 or 1", this::mergeNoWood);
        sentence("4: IndexOutOfBounds if rule is not 0 to 3", this::mergeNoRule);
        sentence("4: IllegalState if these would be more than 24", this::mergeTooMany);
        sentence("4: 24 of both are not too many", this::mergeJustFull);
    }

    private void mergeAll() {
        villages(0, 0, 9);
        villages(1, 5, 65535);
        is("merge(0, 0)", 0);
        woodsAre("wood 0:; wood 1: 0=1 5=1 9=2 65535=2");
        villages(0, 1);
        is("merge(1, 0)", 0);
        woodsAre("wood 0: 0=1 1=1 5=1 9=2 65535=2; wood 1:");
    }

    private void mergeEmpty() {
        is("merge(0, 0)", 0);
        is("merge(1, 2)", 0);
        woodsAre("wood 0:; wood 1:");
        villages(0, 8);
        is("merge(1, 0)", 0);
        woodsAre("wood 0: 8=1; wood 1:");
        is("merge(0, 0)", 0);
        woodsAre("wood 0:; wood 1: 8=1");
        is("merge(0, 1)", 0);
        woodsAre("wood 0:; wood 1: 8=1");
    }

    private void mergeMiles(int rule, String due) {
        for (int from = 0; from < 2; from++) {
            fresh();
            int[] here = {3, 600, 0, 7};
            int[] there = {4, 500, 999, 7};
            for (int k = 0; k < here.length; k++) {
                is("put(" + from + ", " + (k + 1) + ", " + here[k] + ")", -1);
                is("put(" + (1 - from) + ", " + (k + 1) + ", " + there[k] + ")", -1);
            }
            is("merge(" + from + ", " + rule + ")", 4);
            woodsAre(from == 0 ? "wood 0:; wood 1: " + due : "wood 0: " + due + "; wood 1:");
        }
    }

    private void mergeAdded() {
        int[] here = {0, 499, 499, 500, 999, 999, 0};
        int[] there = {0, 499, 500, 500, 0, 999, 999};
        for (int k = 0; k < here.length; k++) {
            is("put(0, " + k + ", " + here[k] + ")", -1);
            is("put(1, " + k + ", " + there[k] + ")", -1);
        }
        is("merge(0, 2)", here.length);
        woodsAre("wood 0:; wood 1: 0=0 1=998 2=999 3=999 4=999 5=999 6=999");
    }

    private void mergeAlone() {
        for (int rule = 0; rule <= 3; rule++) {
            fresh();
            is("put(0, 1, 0)", -1);
            is("put(0, 2, 999)", -1);
            is("put(1, 3, 0)", -1);
            is("put(1, 4, 999)", -1);
            is("merge(1, " + rule + ")", 0);
            woodsAre("wood 0: 1=0 2=999 3=0 4=999; wood 1:");
        }
    }

    private void mergeCommon() {
        villages(0, 0, 5, 65535);
        villages(1, 1, 6);
        is("merge(0, 0)", 0);
        villages(0, 0, 65535, 7);
        is("merge(0, 0)", 2);
        villages(0, 0, 1, 5, 6, 7, 65535);
        is("merge(1, 0)", 6);
        fresh();
        manyVillages(0, 0, 1, FULL);
        manyVillages(1, 0, 1, FULL);
        is("merge(1, 0)", FULL);
        is("count(0, 0)", FULL);
        is("count(1, 0)", 0);
    }

    private void mergeNoWood() {
        villages(0, 1);
        villages(1, 2);
        refusedFor(INDEX, "merge(%d, 0)", NO_WOODS);
    }

    private void mergeNoRule() {
        refusedWhat("merge(0, %d)", 3);
        villages(0, 1);
        villages(1, 1);
        refusedWhat("merge(0, %d)", 3);
        refusedWhat("merge(1, %d)", 3);
    }

    private void mergeTooMany() {
        manyVillages(0, 0, 1, FULL);
        villages(1, 24);
        refused(STATE, "merge(0, 0)", "merge(1, 0)", "merge(0, 3)", "merge(1, 3)");
        villages(1, 0, 1, 2);
        refused(STATE, "merge(0, 1)", "merge(1, 2)");
        fresh();
        manyVillages(0, 0, 2, 13);
        manyVillages(1, 1, 2, 12);
        refused(STATE, "merge(0, 0)", "merge(1, 0)");
        fresh();
        manyVillages(0, 0, 1, FULL);
        manyVillages(1, 65000, 1, FULL);
        refused(STATE, "merge(0, 0)", "merge(1, 0)");
        is("count(0, 0)", FULL);
        is("count(1, 0)", FULL);
    }

    private void mergeJustFull() {
        manyVillages(0, 0, 2, 12);
        manyVillages(1, 1, 2, 12);
        is("merge(0, 0)", 0);
        is("count(1, 0)", FULL);
        is("count(0, 0)", 0);
        is("at(1, 23)", 23);
        is("merge(0, 0)", 0);
        villages(0, 23, 0);
        is("merge(0, 0)", 2);
        is("miles(1, 23)", 1);
        is("merge(1, 0)", 0);
        is("count(0, 0)", FULL);
    }

    private void cut() {
        sentence("5: all its villages with this name or a greater one", this::cutAtName);
        sentence("5: by 0 all of them, by 65535 this one alone", this::cutAtEnds);
        sentence("5: returns how many these are: none, one, 24", this::cutMany);
        sentence("5: an empty wood", this::cutEmpty);
        sentence("5: IndexOutOfBounds if wood is not 0 or 1", this::cutNoWood);
        sentence("5: IllegalArgument if name is not 0 to 65535", this::cutNoName);
        sentence("5: IllegalState if the other wood has a village", this::cutOtherNotEmpty);
    }

    private void cutAtName() {
        villages(0, 10, 20, 30);
        is("cut(0, 20)", 2);
        woodsAre("wood 0: 10=1; wood 1: 20=2 30=3");
        is("merge(1, 0)", 0);
        is("cut(0, 21)", 1);
        woodsAre("wood 0: 10=1 20=2; wood 1: 30=3");
        is("merge(0, 0)", 0);
        is("cut(1, 19)", 2);
        woodsAre("wood 0: 20=2 30=3; wood 1: 10=1");
    }

    private void cutAtEnds() {
        villages(0, 0, 1, 65534, 65535);
        is("cut(0, 65535)", 1);
        woodsAre("wood 0: 0=1 1=2 65534=3; wood 1: 65535=4");
        is("merge(1, 0)", 0);
        is("cut(0, 0)", 4);
        woodsAre("wood 0:; wood 1: 0=1 1=2 65534=3 65535=4");
        is("cut(1, 1)", 3);
        woodsAre("wood 0: 1=2 65534=3 65535=4; wood 1: 0=1");
    }

    private void cutMany() {
        manyVillages(1, 5, 1, FULL);
        is("cut(1, 29)", 0);
        is("count(1, 0)", FULL);
        is("cut(1, 65535)", 0);
        is("cut(1, 28)", 1);
        is("merge(0, 0)", 0);
        is("cut(1, 6)", FULL - 1);
        is("merge(0, 0)", 0);
        is("cut(1, 5)", FULL);
        is("count(1, 0)", 0);
        is("cut(0, 4)", FULL);
        is("count(1, 0)", FULL);
    }

    private void cutEmpty() {
        is("cut(0, 0)", 0);
        is("cut(1, 0)", 0);
        is("cut(0, 65535)", 0);
        woodsAre("wood 0:; wood 1:");
        villages(1, 5);
        refused(STATE, "cut(0, 0)", "cut(0, 65535)");
    }

    private void cutNoWood() {
        villages(0, 1);
        refusedFor(INDEX, "cut(%d, 0)", NO_WOODS);
    }

    private void cutNoName() {
        villages(0, 0, 5, 65535);
        refusedFor(ARGUMENT, "cut(0, %d)", NO_NAMES);
        refusedFor(ARGUMENT, "cut(1, %d)", NO_NAMES);
    }

    private void cutOtherNotEmpty() {
        villages(0, 10, 20);
        villages(1, 65535);
        refused(STATE, "cut(0, 0)", "cut(0, 20)", "cut(0, 21)", "cut(1, 0)", "cut(1, 65535)");
        is("take(1, 65535)", 1);
        is("cut(0, 20)", 1);
        refused(STATE, "cut(0, 10)", "cut(1, 20)");
        is("take(0, 10)", 1);
        is("cut(1, 20)", 1);
    }

    private void turn() {
        sentence("6: each bit that is told is changed in all its names: none, all, the highest, the lowest",
            this::turnBits);
        sentence("6: twice by the same bits is as before", this::turnTwice);
        sentence("6: miles go with their names, the other wood stays", this::turnMiles);
        sentence("6: returns its smallest name then", this::turnSmallest);
        sentence("6: a full wood", this::turnFull);
        sentence("6: IndexOutOfBounds if wood is not 0 or 1", this::turnNoWood);
        sentence("6: IllegalArgument if bits is not 0 to 65535", this::turnNoBits);
        sentence("6: IllegalState if it has no village", this::turnEmpty);
    }

    private void turnBits() {
        villages(0, 0, 1, 32768, 65535);
        is("turn(0, 0)", 0);
        woodsAre("wood 0: 0=1 1=2 32768=3 65535=4; wood 1:");
        is("turn(0, 65535)", 0);
        woodsAre("wood 0: 0=4 32767=3 65534=2 65535=1; wood 1:");
        is("turn(0, 32768)", 32766);
        woodsAre("wood 0: 32766=2 32767=1 32768=4 65535=3; wood 1:");
        is("turn(0, 1)", 32766);
        woodsAre("wood 0: 32766=1 32767=2 32769=4 65534=3; wood 1:");
    }

    private void turnTwice() {
        villages(1, 3, 100, 5000, 60000);
        String before = x.woods();
        for (int bits : new int[] {1, 2, 21845, 32768, 65535}) {
            String call = "turn(1, " + bits + ")";
            x.answer(call);
            is(call, 3);
            woodsAre(before);
        }
    }

    private void turnMiles() {
        villages(0, 1, 2);
        villages(1, 1, 2);
        is("turn(0, 3)", 1);
        woodsAre("wood 0: 1=2 2=1; wood 1: 1=1 2=2");
        is("turn(1, 65535)", 65533);
        woodsAre("wood 0: 1=2 2=1; wood 1: 65533=2 65534=1");
    }

    private void turnSmallest() {
        villages(0, 5);
        is("turn(0, 0)", 5);
        is("turn(0, 5)", 0);
        is("turn(0, 65535)", 65535);
        villages(0, 0);
        is("turn(0, 32768)", 32767);
        is("turn(0, 32767)", 0);
    }

    private void turnFull() {
        manyVillages(0, 0, 1, FULL);
        is("turn(0, 65535)", 65512);
        for (int k = 0; k < FULL; k++) {
            is("at(0, " + k + ")", 65512 + k);
            is("miles(0, " + (65512 + k) + ")", FULL - k);
        }
        is("turn(0, 31)", 65504);
        is("count(0, 0)", FULL);
    }

    private void turnNoWood() {
        villages(0, 1);
        villages(1, 1);
        refusedFor(INDEX, "turn(%d, 1)", NO_WOODS);
    }

    private void turnNoBits() {
        villages(0, 0, 5, 65535);
        refusedFor(ARGUMENT, "turn(0, %d)", NO_NAMES);
        refusedFor(ARGUMENT, "turn(1, %d)", NO_NAMES);
    }

    private void turnEmpty() {
        refused(STATE, "turn(0, 0)", "turn(1, 65535)");
        villages(0, 7);
        refused(STATE, "turn(1, 0)");
        is("take(0, 7)", 1);
        refused(STATE, "turn(0, 0)");
        villages(0, 7);
        is("merge(0, 0)", 0);
        refused(STATE, "turn(0, 0)");
        is("turn(1, 0)", 7);
    }

    public static void main(String[] args) {
        VillagesEdgesTest test = new VillagesEdgesTest();
        test.newObject();
        test.put();
        test.take();
        test.merge();
        test.cut();
        test.turn();
        test.checks.end("VillagesEdgesTest");
    }
}
