/** The boundary cases that promises 1 to 10 name: a new object, towns, drums and combs. */
public final class TownEdgesTest {
    private static final Class<IndexOutOfBoundsException> INDEX = IndexOutOfBoundsException.class;
    private static final Class<IllegalArgumentException> ARGUMENT = IllegalArgumentException.class;
    private static final Class<IllegalStateException> STATE = IllegalStateException.class;

    private static final Checks CHECKS = new Checks();
    private static final Twins TWINS = new Twins(CHECKS);

    public static void main(String[] args) {
        promise1WithoutTowns();
        promise1WithAnEmptyBuffer();
        promise2PinsOutOfRange();
        promise2ReturnsItsNumber();
        promise2SixTowns();
        promise2PinsGreaterThanSetting2();
        promise2Undoable();
        promise3BoxesKeepTheirPins();
        promise3ReturnsThePreviousValue();
        promise3NoSuchSetting();
        promise3ValueOutOfRange();
        promise3Undoable();
        promise4NoSuchPlace();
        promise4ThereIsAPin();
        promise4TheBoxIsEmpty();
        promise4ReturnsThePinsOfTheDrum();
        promise4Undoable();
        promise5NoSuchPlace();
        promise5ThereIsNoPin();
        promise5TheBoxIsFull();
        promise5ReturnsThePinsOfTheBox();
        promise5Undoable();
        promise6NoSuchPlace();
        promise6BothTownsAreTheSame();
        promise6NoPinOrOneThere();
        promise6ThePlaceThatIsTheSame();
        promise6Undoable();
        promise7EachHasTheDrumOfTheOther();
        promise7AllElseStays();
        promise7ReturnsTheRightPinsOfBoth();
        promise7Refuses();
        promise7Undoable();
        promise8BehindStep23ComesStep0();
        promise8ByOutOfRange();
        promise8ReturnsTheRightPins();
        promise8Undoable();
        promise9ItsWearBecomes0();
        promise9NoSuchTooth();
        promise9Undoable();
        promise10IntoAFullBox();
        promise10ReturnsHowManySound();
        promise10NoSuchTown();
        promise10Undoable();
        CHECKS.end();
    }

    private static void due(String call, long want, long got) {
        CHECKS.due(call, want, got);
    }

    /** "Creates a land without towns" */
    private static void promise1WithoutTowns() {
        DrumTowns land = new DrumTowns();
        due("towns of a new object", 0, land.count(0));
        TWINS.refused("a new object has no town 0", INDEX, DrumTowns::new, x -> x.town(0, 0));
        TWINS.refusedAsMade("a new object has no saved state", STATE, DrumTowns::new, x -> x.undo());
        due("the first town of a new object", 0, land.addTown(0));
    }

    /** "with an empty buffer" */
    private static void promise1WithAnEmptyBuffer() {
        due("clearBuffer() of a new object", 0, new DrumTowns().clearBuffer());
        due("firstError() of a new object", 0, new DrumTowns().firstError());
        due("append to a new object", 1, new DrumTowns().append('a'));
    }

    /** "pins: the pins in its box, 0 to 200"; "IllegalArgumentException if pins is out of range" */
    private static void promise2PinsOutOfRange() {
        TWINS.outOfRange("addTown: pins is 0 to 200", ARGUMENT, 0, 200, (land, pins) -> land.addTown(pins));
        TWINS.refused("addTown: 201 of at most 999", ARGUMENT, () -> Lands.one(1, 999), x -> x.addTown(201));
        DrumTowns land = new DrumTowns();
        land.addTown(0);
        land.addTown(200);
        due("the box of a town with 0", 0, land.town(0, 0));
        due("the box of a town with 200", 200, land.town(1, 0));
        due("all pins", 200, land.count(1));
    }

    /** "Returns its number." */
    private static void promise2ReturnsItsNumber() {
        DrumTowns land = new DrumTowns();
        for (int i = 0; i < 6; i++) {
            due("addTown", i, land.addTown(1));
        }
        land.undo();
        land.undo();
        due("addTown after two undos", 4, land.addTown(1));
    }

    /** "IllegalStateException if there are 6 towns" */
    private static void promise2SixTowns() {
        TWINS.refused("addTown of a 7th town", STATE, Lands::six, x -> x.addTown(20));
        TWINS.refused("addTown of a 7th town, without pins", STATE, Lands::six, x -> x.addTown(0));
        due("addTown of a 6th town", 5, Checks.landOf(5, 20).addTown(20));
    }

    /** "or pins is greater than setting 2" */
    private static void promise2PinsGreaterThanSetting2() {
        TWINS.refused("addTown: 31 of 30", STATE, () -> Lands.one(0, 30), x -> x.addTown(31));
        TWINS.refused("addTown: 200 of 199", STATE, () -> Lands.one(0, 199), x -> x.addTown(200));
        TWINS.refused("addTown: 2 of 1", STATE, () -> Lands.one(0, 1), x -> x.addTown(2));
        due("addTown: 30 of 30", 1, Lands.one(0, 30).addTown(30));
        due("addTown: 1 of 1", 1, Lands.one(0, 1).addTown(1));
        due("addTown: 0 of 1", 1, Lands.one(0, 1).addTown(0));
        due("addTown: 200 of 200", 1, Lands.one(0, 200).addTown(200));
    }

    /** "Adds a town. Undoable.": a town that comes after an undo is new. */
    private static void promise2Undoable() {
        TWINS.undoes("addTown", Lands::busy, land -> land.addTown(5));
        TWINS.undoes("addTown of the first town", Lands::none, land -> land.addTown(5));
        DrumTowns land = Checks.landOf(1, 20);
        land.addTown(9);
        Lands.put(land, 1, 0, 0);
        Checks.learn(land, 1, "ab");
        land.play(1);
        land.lend(0, 1, 3);
        for (int i = 0; i < 5; i++) {
            land.undo();
        }
        due("towns after the undos", 1, land.count(0));
        due("addTown after the undos", 1, land.addTown(4));
        int[] want = {4, 0, 0, 0, 0, 0, 0, 0, 0, 0, 0, 0};
        for (int what = 0; what <= 11; what++) {
            due("the new town's property " + what, want[what], land.town(1, what));
        }
        due("the new town's wear", 0, land.wear(1, 0));
    }

    /** "(Boxes that have more pins than setting 2 then keep them.)" */
    private static void promise3BoxesKeepTheirPins() {
        DrumTowns land = Checks.landOf(2, 150);
        due("set(2, 149)", 200, land.set(2, 149));
        due("a box with one more", 150, land.town(0, 0));
        due("set(2, 1)", 149, land.set(2, 1));
        due("a box with many more", 150, land.town(1, 0));
        due("all pins", 300, land.count(1));
        due("such a box can be put from", 1, land.put(0, 0, 0));
        due("its pins then", 149, land.town(0, 0));
    }

    /** "Returns the previous value." */
    private static void promise3ReturnsThePreviousValue() {
        DrumTowns land = new DrumTowns();
        due("set(0, 0)", 2, land.set(0, 0));
        due("set(0, 24)", 0, land.set(0, 24));
        due("set(0, 24) again", 24, land.set(0, 24));
        due("set(1, 1)", 10, land.set(1, 1));
        due("set(1, 100)", 1, land.set(1, 100));
        due("set(2, 1)", 200, land.set(2, 1));
        due("set(2, 999)", 1, land.set(2, 999));
        land.undo();
        due("set(2, 999) after undo", 1, land.set(2, 999));
        due("the others stay", 24, land.setting(0));
        due("the others stay", 100, land.setting(1));
    }

    /** "IndexOutOfBoundsException if there is no such setting" */
    private static void promise3NoSuchSetting() {
        TWINS.outOfRange("set: setting is 0 to 2", INDEX, 0, 2, (land, setting) -> land.set(setting, 5));
    }

    /** "IllegalArgumentException if value is out of range" */
    private static void promise3ValueOutOfRange() {
        TWINS.outOfRange("set: the rest is 0 to 24", ARGUMENT, 0, 24, (land, value) -> land.set(0, value));
        TWINS.outOfRange("set: the dull wear is 1 to 100", ARGUMENT, 1, 100, (land, value) -> land.set(1, value));
        TWINS.outOfRange("set: the most pins are 1 to 999", ARGUMENT, 1, 999, (land, value) -> land.set(2, value));
    }

    private static void promise3Undoable() {
        TWINS.undoes("set(0, 24)", Lands::busy, land -> land.set(0, 24));
        TWINS.undoes("set(1, 1)", Lands::busy, land -> land.set(1, 1));
        TWINS.undoes("set(2, 999) without towns", Lands::none, land -> land.set(2, 999));
    }

    /** "IndexOutOfBoundsException if there is no such town, step or tooth" */
    private static void promise4NoSuchPlace() {
        TWINS.noSuchTown("put", (land, town) -> land.put(town, 9, 9));
        TWINS.outOfRange("put: step is 0 to 23", INDEX, 0, 23, (land, step) -> land.put(0, step, 9));
        TWINS.outOfRange("put: tooth is 0 to 11", INDEX, 0, 11, (land, tooth) -> land.put(0, 9, tooth));
        DrumTowns land = Checks.landOf(6, 4);
        int[] corners = {0, 0, 0, 11, 23, 0, 23, 11};
        for (int i = 0; i < 4; i++) {
            due("put at a corner", i + 1, land.put(5, corners[2 * i], corners[2 * i + 1]));
        }
    }

    /** "IllegalStateException if there is a pin" */
    private static void promise4ThereIsAPin() {
        TWINS.refused("put onto a pin", STATE, Lands::busy, land -> land.put(0, 0, 0));
        TWINS.refused("put onto a pin at the last place", STATE, Lands::busy, land -> land.put(0, 23, 11));
        due("put beside it, the next tooth", 5, Lands.busy().put(0, 0, 1));
        due("put beside it, the next step", 5, Lands.busy().put(0, 1, 0));
        due("put there in another drum", 3, Lands.busy().put(2, 0, 0));
    }

    /** "or the box is empty" */
    private static void promise4TheBoxIsEmpty() {
        TWINS.refused("put from an empty box", STATE, () -> Lands.one(0, 200), land -> land.put(0, 0, 0));
        TWINS.refused("put from an empty box beside a full one", STATE, () -> Lands.two(0, 5, 200),
                land -> land.put(0, 0, 0));
        TWINS.refused("put from a box that is empty by put", STATE, () -> Lands.put(Lands.one(1, 200), 0, 0, 0),
                land -> land.put(0, 0, 1));
        DrumTowns land = Lands.one(1, 200);
        due("put of the last pin", 1, land.put(0, 0, 0));
        due("the box then", 0, land.town(0, 0));
    }

    /** "Returns how many pins the drum has then." */
    private static void promise4ReturnsThePinsOfTheDrum() {
        DrumTowns land = Lands.busy();
        due("put", 5, land.put(0, 9, 9));
        due("put", 6, land.put(0, 0, 9));
        due("put into another drum", 4, land.put(1, 9, 9));
        due("the box", 14 - 2, land.town(0, 0));
        due("the place", 1 | 1 << 9, land.step(0, 0, 0));
    }

    private static void promise4Undoable() {
        TWINS.undoes("put", Lands::busy, land -> land.put(0, 23, 0));
        TWINS.undoes("put of the last pin", () -> Lands.one(1, 200), land -> land.put(0, 0, 0));
    }

    /** "IndexOutOfBoundsException if there is no such town, step or tooth" */
    private static void promise5NoSuchPlace() {
        TWINS.noSuchTown("pull", (land, town) -> land.pull(town, 0, 0));
        TWINS.outOfRange("pull: step is 0 to 23", INDEX, 0, 23, (land, step) -> land.pull(0, step, 0));
        TWINS.outOfRange("pull: tooth is 0 to 11", INDEX, 0, 11, (land, tooth) -> land.pull(0, 0, tooth));
        DrumTowns land = Lands.put(Checks.landOf(6, 4), 5, 0, 0, 0, 11, 23, 0, 23, 11);
        int[] corners = {0, 0, 0, 11, 23, 0, 23, 11};
        for (int i = 0; i < 4; i++) {
            due("pull at a corner", i + 1, land.pull(5, corners[2 * i], corners[2 * i + 1]));
        }
    }

    /** "IllegalStateException if there is no pin" */
    private static void promise5ThereIsNoPin() {
        TWINS.refused("pull of nothing", STATE, Lands::busy, land -> land.pull(0, 0, 1));
        TWINS.refused("pull of another drum's pin", STATE, Lands::busy, land -> land.pull(2, 0, 0));
        TWINS.refused("pull from an empty drum", STATE, Lands::six, land -> land.pull(0, 0, 0));
        TWINS.refused("pull of nothing that the tune has", STATE, Lands::busy, land -> land.pull(1, 0, 11));
    }

    /** A land with one pin in the drum, so many in the box, and so many at the most. */
    private static DrumTowns withOnePin(int box, int most) {
        DrumTowns land = Lands.put(Lands.one(box + 1, 200), 0, 3, 3);
        land.set(2, most);
        return land;
    }

    /** "or the box has as many pins as setting 2 or more" */
    private static void promise5TheBoxIsFull() {
        TWINS.refused("pull into a box with 10 of 10", STATE, () -> withOnePin(10, 10), x -> x.pull(0, 3, 3));
        TWINS.refused("pull into a box with 10 of 9", STATE, () -> withOnePin(10, 9), x -> x.pull(0, 3, 3));
        TWINS.refused("pull into a box with 10 of 1", STATE, () -> withOnePin(10, 1), x -> x.pull(0, 3, 3));
        TWINS.refused("pull into a box with 1 of 1", STATE, () -> withOnePin(1, 1), x -> x.pull(0, 3, 3));
        due("pull into a box with 10 of 11", 11, withOnePin(10, 11).pull(0, 3, 3));
        due("pull into a box with 0 of 1", 1, withOnePin(0, 1).pull(0, 3, 3));
    }

    /** "Returns how many pins are in the box then." */
    private static void promise5ReturnsThePinsOfTheBox() {
        DrumTowns land = Lands.busy();
        due("pull", 15, land.pull(0, 23, 11));
        due("pull", 16, land.pull(0, 1, 1));
        due("the drum", 2, land.town(0, 1));
        due("the place", 0, land.step(0, 1, 0));
        due("a pin of the same tooth stays", 2, land.step(0, 5, 0));
    }

    private static void promise5Undoable() {
        TWINS.undoes("pull", Lands::busy, land -> land.pull(0, 23, 11));
    }

    /** "IndexOutOfBoundsException if there is no such town, step or tooth" */
    private static void promise6NoSuchPlace() {
        TWINS.noSuchTown("move from it", (land, town) -> land.move(town, 1, 1, 1));
        TWINS.noSuchTown("move to it", (land, town) -> land.move(0, town, 1, 1));
        TWINS.outOfRange("move: step is 0 to 23", INDEX, 0, 23, (land, step) -> land.move(0, 1, step, 1));
        TWINS.outOfRange("move: tooth is 0 to 11", INDEX, 0, 11, (land, tooth) -> land.move(0, 1, 1, tooth));
        DrumTowns land = Lands.put(Checks.landOf(6, 4), 0, 0, 0, 0, 11, 23, 0, 23, 11);
        int[] corners = {0, 0, 0, 11, 23, 0, 23, 11};
        for (int i = 0; i < 4; i++) {
            due("move of a corner", i + 1, land.move(0, 5, corners[2 * i], corners[2 * i + 1]));
        }
    }

    /** "IllegalArgumentException if both towns are the same" */
    private static void promise6BothTownsAreTheSame() {
        TWINS.refused("move to itself", ARGUMENT, Lands::busy, land -> land.move(0, 0, 1, 1));
        TWINS.refused("move of nothing to itself", ARGUMENT, Lands::busy, land -> land.move(2, 2, 9, 9));
        TWINS.refused("move to itself, the last town", ARGUMENT, Lands::six, land -> land.move(5, 5, 23, 11));
    }

    /** "IllegalStateException if there is no pin in the drum of the one, or there is one in that of the other" */
    private static void promise6NoPinOrOneThere() {
        TWINS.refused("move of nothing", STATE, Lands::busy, land -> land.move(0, 2, 9, 9));
        TWINS.refused("move of a pin of the other one", STATE, Lands::busy, land -> land.move(2, 0, 5, 1));
        TWINS.refused("move onto a pin", STATE, Lands::busy, land -> land.move(0, 1, 0, 0));
        TWINS.refused("move of nothing onto a pin", STATE, Lands::busy, land -> land.move(2, 0, 23, 11));
    }

    /** "Moves a pin to the place that is the same"; "Returns how many pins the drum of the other town has then." */
    private static void promise6ThePlaceThatIsTheSame() {
        DrumTowns land = Lands.busy();
        due("move", 3, land.move(0, 2, 23, 11));
        due("the place in the one", 0, land.step(0, 23, 0));
        due("the place in the other", 1 << 11, land.step(2, 23, 0));
        due("the drum of the one", 3, land.town(0, 1));
        due("move back", 4, land.move(2, 0, 23, 11));
        DrumTowns full = Lands.put(Lands.two(2, 1, 200), 0, 0, 0);
        full.set(2, 1);
        due("move between full boxes", 1, full.move(0, 1, 0, 0));
        due("the box of the one", 1, full.town(0, 0));
        due("the box of the other", 1, full.town(1, 0));
        DrumTowns empty = Lands.put(Lands.two(1, 0, 200), 0, 0, 0);
        due("move between empty boxes", 1, empty.move(0, 1, 0, 0));
        due("the boxes stay empty", 0, empty.count(2));
    }

    private static void promise6Undoable() {
        TWINS.undoes("move", Lands::busy, land -> land.move(0, 2, 23, 11));
    }

    /** "each of two towns has the drum of the other one then (with its pins)" */
    private static void promise7EachHasTheDrumOfTheOther() {
        DrumTowns land = Lands.busy();
        land.trade(0, 2);
        for (int i = 0; i < 24; i++) {
            due("the step " + i + " that was of 2", Lands.busy().step(2, i, 0), land.step(0, i, 0));
            due("the step " + i + " that was of 0", Lands.busy().step(0, i, 0), land.step(2, i, 0));
            due("the step " + i + " of 1 stays", Lands.busy().step(1, i, 0), land.step(1, i, 0));
        }
        land.trade(2, 0);
        due("trade back", 1 << 11, land.step(0, 23, 0));
        DrumTowns six = Lands.put(Lands.six(), 5, 23, 11);
        six.trade(5, 0);
        due("trade with an empty drum", 1, six.town(0, 1));
        due("the drum that was empty", 0, six.town(5, 1));
    }

    /** "tunes, combs, boxes, and what is counted of towns, stay" */
    private static void promise7AllElseStays() {
        DrumTowns land = Lands.busy();
        land.set(1, 1);
        land.play(0);
        DrumTowns like = Lands.busy();
        like.set(1, 1);
        like.play(0);
        land.trade(0, 1);
        int[] staying = {0, 2, 6, 7, 8, 9, 10, 11};
        for (int town = 0; town < 2; town++) {
            for (int what : staying) {
                due("town(" + town + ", " + what + ") stays", like.town(town, what), land.town(town, what));
            }
            for (int i = 0; i < 24; i++) {
                due("the tune of " + town + " stays", like.step(town, i, 1), land.step(town, i, 1));
                due("the comb of " + town + " stays", like.wear(town, i / 2), land.wear(town, i / 2));
            }
        }
        due("debt(1, 0) stays", 5, land.debt(1, 0));
        due("debt(0, 1) stays", 3, land.debt(0, 1));
    }

    /** "Returns how many pins are right then, in both drums together." */
    private static void promise7ReturnsTheRightPinsOfBoth() {
        DrumTowns land = Lands.six();
        Checks.learn(land, 0, "a");
        Checks.learn(land, 1, "b");
        Checks.learn(land, 2, "c");
        Lands.put(land, 0, 0, 1);
        Lands.put(land, 1, 0, 0);
        Lands.put(land, 2, 0, 2);
        due("none is right before", 0, land.town(0, 3) + land.town(1, 3));
        due("both are right then, the third one's does not count", 2, land.trade(0, 1));
        due("none is right then", 0, land.trade(1, 0));
        due("trade of nothing", 0, land.trade(4, 5));
    }

    /** "IndexOutOfBoundsException if there is no such town"; "IllegalArgumentException if both towns are the same" */
    private static void promise7Refuses() {
        TWINS.noSuchTown("trade by it", (land, town) -> land.trade(town, 0));
        TWINS.noSuchTown("trade with it", (land, town) -> land.trade(0, town));
        TWINS.refused("trade with itself", ARGUMENT, Lands::busy, land -> land.trade(2, 2));
        TWINS.refused("trade with itself, the first town", ARGUMENT, Lands::six, land -> land.trade(0, 0));
        TWINS.refused("trade with itself, the last town", ARGUMENT, Lands::six, land -> land.trade(5, 5));
    }

    private static void promise7Undoable() {
        TWINS.undoes("trade", Lands::busy, land -> land.trade(0, 2));
    }

    /** "what was at a step is so many steps later then (behind step 23 comes step 0)" */
    private static void promise8BehindStep23ComesStep0() {
        for (int by = 0; by < 24; by++) {
            DrumTowns land = Lands.put(Lands.one(3, 200), 0, 0, 0, 1, 5, 23, 11);
            land.turn(0, by);
            int[] masks = new int[24];
            masks[by] |= 1;
            masks[(by + 1) % 24] |= 1 << 5;
            masks[(by + 23) % 24] |= 1 << 11;
            for (int i = 0; i < 24; i++) {
                due("the step " + i + " after turn by " + by, masks[i], land.step(0, i, 0));
            }
        }
        DrumTowns land = Lands.busy();
        land.turn(0, 1);
        due("another drum stays", 1, land.step(1, 0, 0));
        due("the tune stays", 1, land.step(0, 0, 1));
        due("the comb stays", Lands.busy().wear(0, 1), land.wear(0, 1));
        due("the box stays", 14, land.town(0, 0));
    }

    /** "by: 0 to 23"; "IllegalArgumentException if by is out of range"; the exception for no such town */
    private static void promise8ByOutOfRange() {
        TWINS.outOfRange("turn: by is 0 to 23", ARGUMENT, 0, 23, (land, by) -> land.turn(0, by));
        TWINS.noSuchTown("turn", (land, town) -> land.turn(town, 1));
    }

    /** "Returns how many pins are right then." */
    private static void promise8ReturnsTheRightPins() {
        DrumTowns land = Lands.put(Lands.one(3, 200), 0, 22, 0, 23, 1, 5, 5);
        Checks.learn(land, 0, "ab");
        due("turn by 0", 0, land.turn(0, 0));
        due("turn by 2, over the last step", 2, land.turn(0, 2));
        due("turn by 23", 0, land.turn(0, 23));
        due("turn by 1", 2, land.turn(0, 1));
    }

    private static void promise8Undoable() {
        TWINS.undoes("turn by 23", Lands::busy, land -> land.turn(0, 23));
        TWINS.undoes("turn by 0", Lands::busy, land -> land.turn(0, 0));
    }

    /** "Files a tooth: its wear becomes 0."; "Returns the wear that it had." */
    private static void promise9ItsWearBecomes0() {
        DrumTowns land = Lands.put(Lands.two(9, 9, 200), 0, 0, 0, 0, 11, 4, 11);
        Lands.put(land, 1, 0, 11);
        land.play(0);
        land.play(1);
        due("file of a tooth without wear", 0, land.file(0, 5));
        due("file of the last tooth", 2, land.file(0, 11));
        due("its wear then", 0, land.wear(0, 11));
        due("the wear of the first tooth stays", 1, land.wear(0, 0));
        due("the wear of another town's tooth stays", 1, land.wear(1, 11));
        due("file of it again", 0, land.file(0, 11));
        due("file of the first tooth", 1, land.file(0, 0));
        land.set(1, 1);
        due("a dull tooth", 1, land.town(1, 11));
        due("file of a dull tooth", 1, land.file(1, 11));
        due("it is not dull then", 0, land.town(1, 11));
        due("it sounds then", 1, land.play(1));
    }

    /** "IndexOutOfBoundsException if there is no such town or tooth" */
    private static void promise9NoSuchTooth() {
        TWINS.noSuchTown("file", (land, town) -> land.file(town, 0));
        TWINS.outOfRange("file: tooth is 0 to 11", INDEX, 0, 11, (land, tooth) -> land.file(0, tooth));
    }

    private static void promise9Undoable() {
        TWINS.undoes("file", Lands::busy, land -> land.file(0, 11));
        TWINS.undoes("file of a tooth without wear", Lands::busy, land -> land.file(0, 7));
    }

    /** "(Pins fall into the box also if it has as many as setting 2 or more.)" */
    private static void promise10IntoAFullBox() {
        for (int most = 1; most <= 7; most++) {
            DrumTowns land = Lands.put(Lands.one(8, 200), 0, 0, 0, 3, 0, 6, 0);
            land.set(1, 1);
            land.set(2, most);
            due("play, two fall into a box with 5 of " + most, 1, land.play(0));
            due("the box of 5 with 2 more", 7, land.town(0, 0));
            due("fallen", 2, land.town(0, 10));
            due("the drum", 1, land.town(0, 1));
        }
    }

    /** "Returns how many pins sound." */
    private static void promise10ReturnsHowManySound() {
        DrumTowns land = Lands.one(9, 200);
        due("play of an empty drum", 0, land.play(0));
        due("it counts as played", 1, land.town(0, 8));
        Lands.put(land, 0, 0, 0, 1, 0, 2, 0, 2, 1);
        due("play with a silent pin", 3, land.play(0));
        land.set(1, 1);
        due("play with a pin that sounds, and is dull then", 0, land.play(0));
        due("sounds so far", 3, land.town(0, 9));
        due("playings so far", 3, land.town(0, 8));
    }

    /** "IndexOutOfBoundsException if there is no such town" */
    private static void promise10NoSuchTown() {
        TWINS.noSuchTown("play", (land, town) -> land.play(town));
    }

    private static void promise10Undoable() {
        TWINS.undoes("play", Lands::busy, land -> land.play(0));
        TWINS.undoes("play of which pins fall", () -> dull(Lands.busy()), land -> land.play(0));
    }

    private static DrumTowns dull(DrumTowns land) {
        land.set(1, 1);
        return land;
    }
}
