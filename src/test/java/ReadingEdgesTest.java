/** The boundary cases that promises 19 to 24 name: what there is. */
public final class ReadingEdgesTest {
    private static final Class<IndexOutOfBoundsException> INDEX = IndexOutOfBoundsException.class;
    private static final Class<IllegalArgumentException> ARGUMENT = IllegalArgumentException.class;

    private static final Checks CHECKS = new Checks();
    private static final Twins TWINS = new Twins(CHECKS);

    public static void main(String[] args) {
        promise19EachProperty();
        promise19OfANewTown();
        promise19DebtsToAllOthersTogether();
        promise19SoFar();
        promise19NoSuchTown();
        promise19WhatIsNot0To11();
        promise20EachMask();
        promise20WouldSoundThere();
        promise20NoSuchTownOrStep();
        promise20WhatIsNot0To2();
        promise21TheWear();
        promise21NoSuchTownOrTooth();
        promise22TheDebt();
        promise22BothAreTheSame();
        promise22NoSuchTown();
        promise23OfANewObject();
        promise23PinsInBoxesAndDrums();
        promise23EachOrderCountsByItself();
        promise23SoFar();
        promise23SavedStates();
        promise23WhatIsNot0To10();
        promise24ItsValue();
        promise24NoSuchSetting();
        CHECKS.end();
    }

    private static void due(String call, long want, long got) {
        CHECKS.due(call, want, got);
    }

    private static void dueTown(String when, DrumTowns land, int town, int... want) {
        for (int what = 0; what <= 11; what++) {
            due(when + ": town(" + town + ", " + what + ")", want[what], land.town(town, what));
        }
    }

    /** "what: 0: pins in the box; 1: pins in the drum; .. 11: dull teeth" */
    private static void promise19EachProperty() {
        DrumTowns land = Lands.busy();
        // Town 0 sounded with four pins; its pins at 0 and 1 are right, and three of its tune's five are missing.
        dueTown("busy", land, 0, 14, 4, 4, 2, 2, 2, 3, 5, 1, 4, 0, 0);
        // Of the town 1, the pin at 4 was at rest.
        dueTown("busy", land, 1, 17, 3, 3, 2, 1, 1, 5, 5, 1, 2, 0, 0);
        dueTown("busy", land, 2, 20, 2, 1, 0, 2, 1, 2, 0, 0, 0, 0, 0);
        for (int what = 0; what <= 11; what++) {
            int asked = what;
            TWINS.reads("town(0, " + what + ")", Lands::busy, x -> x.town(0, asked));
        }
    }

    /** The same, for a town that came just now. */
    private static void promise19OfANewTown() {
        dueTown("new", Lands.one(7, 200), 0, 7, 0, 0, 0, 0, 0, 0, 0, 0, 0, 0, 0);
        dueTown("the last one", Lands.six(), 5, 20, 0, 0, 0, 0, 0, 0, 0, 0, 0, 0, 0);
    }

    /** "6: what it owes to all others together; 7: what all others owe to it together" */
    private static void promise19DebtsToAllOthersTogether() {
        DrumTowns land = Checks.landOf(6, 100);
        for (int i = 1; i < 6; i++) {
            Lands.owe(land, 0, i, i);
            Lands.owe(land, i, 0, 10);
        }
        due("what 0 owes to all others", 1 + 2 + 3 + 4 + 5, land.town(0, 6));
        due("what all others owe to 0", 50, land.town(0, 7));
        for (int i = 1; i < 6; i++) {
            due("what " + i + " owes", 10, land.town(i, 6));
            due("what is owed to " + i, i, land.town(i, 7));
        }
    }

    /** "8: how often its drum was played so far; 9: sounds so far; 10: pins that fell out so far" */
    private static void promise19SoFar() {
        DrumTowns land = Lands.put(Lands.two(9, 9, 200), 0, 0, 0, 1, 1, 5, 1);
        land.set(1, 2);
        land.play(0);
        due("fallen after one playing", 0, land.town(0, 10));
        land.play(0);
        dueTown("after two playings", land, 0, 8, 1, 0, 0, 1, 0, 0, 0, 2, 4, 2, 2);
        land.play(0);
        dueTown("after three playings", land, 0, 9, 0, 0, 0, 0, 0, 0, 0, 3, 4, 3, 2);
        land.trade(0, 1);
        due("they are the town's, not the drum's", 3, land.town(0, 8));
        due("they are not the other town's", 0, land.town(1, 8));
        land.undo();
        land.undo();
        dueTown("after undo", land, 0, 8, 1, 0, 0, 1, 0, 0, 0, 2, 4, 2, 2);
        land.file(0, 1);
        due("file takes no sounds back", 4, land.town(0, 9));
    }

    /** "IndexOutOfBoundsException if there is no such town" */
    private static void promise19NoSuchTown() {
        TWINS.noSuchTown("town", (land, town) -> land.town(town, 0));
        TWINS.noSuchTown("town", (land, town) -> land.town(town, 11));
    }

    /** "IllegalArgumentException if what is not 0 to 11" */
    private static void promise19WhatIsNot0To11() {
        TWINS.outOfRange("town: what is 0 to 11", ARGUMENT, 0, 11, (land, what) -> land.town(0, what));
    }

    /** "what: 0: the teeth for which there is a pin ..; 1: the teeth of the tune, as a bit mask" */
    private static void promise20EachMask() {
        DrumTowns land = Lands.put(Lands.one(6, 200), 0, 0, 0, 0, 11, 23, 3, 23, 11);
        Checks.learn(land, 0, "(al)" + "-".repeat(22) + "(dk)");
        due("step(0, 0, 0)", 1 | 1 << 11, land.step(0, 0, 0));
        due("step(0, 23, 0)", 1 << 3 | 1 << 11, land.step(0, 23, 0));
        due("step(0, 0, 1)", 1 | 1 << 11, land.step(0, 0, 1));
        due("step(0, 23, 1)", 1 << 3 | 1 << 10, land.step(0, 23, 1));
        due("step(0, 0, 2)", 1 | 1 << 11, land.step(0, 0, 2));
        due("step(0, 23, 2)", 1 << 3 | 1 << 11, land.step(0, 23, 2));
        for (int what = 0; what <= 2; what++) {
            due("step(0, 12, " + what + ")", 0, land.step(0, 12, what));
            int asked = what;
            TWINS.reads("step(0, 5, " + what + ")", Lands::busy, x -> x.step(0, 5, asked));
        }
    }

    /** "2: the teeth whose pins would sound there if the drum was played now" */
    private static void promise20WouldSoundThere() {
        DrumTowns land = Lands.put(Lands.one(9, 200), 0, 0, 0, 1, 0, 2, 0, 2, 7, 23, 0);
        due("the first step", 1, land.step(0, 0, 2));
        due("at rest", 0, land.step(0, 1, 2));
        due("after the rest", 1 | 1 << 7, land.step(0, 2, 2));
        due("the last step", 1, land.step(0, 23, 2));
        land.set(1, 2);
        due("before it is dull", 1 | 1 << 7, land.step(0, 2, 2));
        due("dull by then", 0, land.step(0, 23, 2));
        land.play(0);
        due("dull from the first step on", 0, land.step(0, 0, 2));
        due("another tooth is not dull", 1 << 7, land.step(0, 2, 2));
        due("it is played now, not again and again", 1, land.town(0, 8));
    }

    /** "IndexOutOfBoundsException if there is no such town or step" */
    private static void promise20NoSuchTownOrStep() {
        for (int what = 0; what <= 2; what++) {
            int asked = what;
            TWINS.noSuchTown("step", (land, town) -> land.step(town, 0, asked));
            TWINS.outOfRange("step: step is 0 to 23", INDEX, 0, 23, (land, step) -> land.step(0, step, asked));
        }
    }

    /** "IllegalArgumentException if what is not 0 to 2" */
    private static void promise20WhatIsNot0To2() {
        TWINS.outOfRange("step: what is 0 to 2", ARGUMENT, 0, 2, (land, what) -> land.step(0, 0, what));
        TWINS.outOfRange("step: what is 0 to 2", ARGUMENT, 0, 2, (land, what) -> land.step(2, 23, what));
    }

    /** "Returns the wear." */
    private static void promise21TheWear() {
        DrumTowns land = Lands.put(Lands.six(), 5, 0, 0, 0, 11, 9, 11);
        land.play(5);
        due("wear of the first tooth", 1, land.wear(5, 0));
        due("wear of the last tooth", 2, land.wear(5, 11));
        due("wear of a tooth without a pin", 0, land.wear(5, 1));
        due("wear of another town's tooth", 0, land.wear(4, 11));
        TWINS.reads("wear(0, 11)", Lands::busy, x -> x.wear(0, 11));
    }

    /** "IndexOutOfBoundsException if there is no such town or tooth" */
    private static void promise21NoSuchTownOrTooth() {
        TWINS.noSuchTown("wear", (land, town) -> land.wear(town, 0));
        TWINS.outOfRange("wear: tooth is 0 to 11", INDEX, 0, 11, (land, tooth) -> land.wear(0, tooth));
    }

    /** "Returns the pins that it owes to that one" */
    private static void promise22TheDebt() {
        DrumTowns land = Lands.six();
        Lands.owe(land, 5, 0, 3);
        due("debt(5, 0)", 3, land.debt(5, 0));
        due("debt(0, 5)", 0, land.debt(0, 5));
        due("debt(5, 4)", 0, land.debt(5, 4));
        land.repay(5, 0, 3);
        due("debt(5, 0) when it is repaid", 0, land.debt(5, 0));
        TWINS.reads("debt(1, 0)", Lands::busy, x -> x.debt(1, 0));
    }

    /** "(0 if both are the same)" */
    private static void promise22BothAreTheSame() {
        DrumTowns land = Lands.busy();
        for (int i = 0; i < 3; i++) {
            due("debt(" + i + ", " + i + ")", 0, land.debt(i, i));
        }
    }

    /** "IndexOutOfBoundsException if there is no such town" */
    private static void promise22NoSuchTown() {
        TWINS.noSuchTown("debt from it", (land, town) -> land.debt(town, 0));
        TWINS.noSuchTown("debt to it", (land, town) -> land.debt(0, town));
        TWINS.noSuchTown("debt from it to it", (land, town) -> land.debt(town, town));
    }

    private static void dueCounts(String when, DrumTowns land, int... want) {
        for (int what = 0; what <= 10; what++) {
            due(when + ": count(" + what + ")", want[what], land.count(what));
        }
    }

    /** "what: 0: towns; .. 10: saved states", without any. */
    private static void promise23OfANewObject() {
        dueCounts("new", new DrumTowns(), 0, 0, 0, 0, 0, 0, 0, 0, 0, 0, 0);
        dueCounts("busy", Lands.busy(), 3, 60, 51, 10, 3, 10, 0, 0, 0, 4, 6);
        dueCounts("6 full boxes", Checks.landOf(6, 200), 6, 1200, 1200, 0, 0, 0, 0, 0, 0, 0, 6);
        for (int what = 0; what <= 10; what++) {
            int asked = what;
            TWINS.reads("count(" + what + ")", Lands::busy, x -> x.count(asked));
        }
    }

    /** "1: pins in all boxes and drums together; 2: pins in all boxes" */
    private static void promise23PinsInBoxesAndDrums() {
        DrumTowns land = Lands.busy();
        land.set(1, 1);
        land.play(0);
        land.play(1);
        due("pins are never lost when they fall", 60, land.count(1));
        due("pins in all boxes then", 51 + 4 + 3, land.count(2));
        land.put(2, 9, 9);
        land.move(2, 0, 9, 9);
        land.lend(0, 1, 1);
        land.settle();
        due("pins are neither made nor lost", 60, land.count(1));
        due("pins in all boxes then", 57, land.count(2));
    }

    /** "4: pairs of towns of which one owes to the other one (each order counts by itself)" */
    private static void promise23EachOrderCountsByItself() {
        DrumTowns land = Checks.landOf(6, 100);
        int pairs = 0;
        for (int i = 0; i < 6; i++) {
            for (int j = 0; j < 6; j++) {
                if (i != j) {
                    Lands.owe(land, i, j, 1);
                    pairs++;
                    due("pairs", pairs, land.count(4));
                    due("all debts together", pairs, land.count(3));
                }
            }
        }
        Lands.owe(land, 5, 4, 1);
        due("a pair that owes more is one", 30, land.count(4));
        due("all debts together", 31, land.count(3));
        land.repay(5, 4, 2);
        due("a pair whose debt is repaid", 29, land.count(4));
    }

    /** "5: pins that were lent so far; 6: .. repaid so far; 7: rings .. so far; 8: by how much .. so far" */
    private static void promise23SoFar() {
        DrumTowns land = Lands.two(20, 20, 200);
        land.lend(0, 1, 9);
        land.repay(1, 0, 2);
        land.lend(1, 0, 3);
        land.settle();
        land.lend(1, 0, 1);
        land.settle();
        dueCounts("so far", land, 2, 40, 40, 3, 1, 13, 2, 2, 8, 0, 6);
        land.settle();
        due("rings of settle() without one", 2, land.count(7));
        land.undo();
        land.undo();
        dueCounts("after undo of settle", land, 2, 40, 40, 5, 2, 13, 2, 1, 6, 0, 4);
        land.repay(1, 0, 4);
        due("repaid is not settled", 6, land.count(8));
        due("repaid", 6, land.count(6));
        due("repaid is still lent", 13, land.count(5));
    }

    /** "10: saved states" */
    private static void promise23SavedStates() {
        DrumTowns land = new DrumTowns();
        for (int i = 0; i < 9; i++) {
            due("saved states", Math.min(i, 6), land.count(10));
            land.settle();
        }
        land.undo();
        due("saved states after undo", 5, land.count(10));
    }

    /** "IllegalArgumentException if what is not 0 to 10" */
    private static void promise23WhatIsNot0To10() {
        TWINS.outOfRange("count: what is 0 to 10", ARGUMENT, 0, 10, (land, what) -> land.count(what));
    }

    /** "Returns its value." */
    private static void promise24ItsValue() {
        DrumTowns land = new DrumTowns();
        land.set(0, 0);
        land.set(1, 100);
        land.set(2, 999);
        due("setting(0)", 0, land.setting(0));
        due("setting(1)", 100, land.setting(1));
        due("setting(2)", 999, land.setting(2));
        for (int setting = 0; setting <= 2; setting++) {
            int asked = setting;
            TWINS.reads("setting(" + setting + ")", Lands::busy, x -> x.setting(asked));
        }
    }

    /** "IndexOutOfBoundsException if there is no such setting" */
    private static void promise24NoSuchSetting() {
        TWINS.outOfRange("setting is 0 to 2", INDEX, 0, 2, (land, setting) -> land.setting(setting));
        TWINS.refused("setting(3) of a new object", INDEX, Lands::none, land -> land.setting(3));
    }
}
