/** The boundary cases that the document names under "Terms"; debts and input text have their own tests. */
public final class TermEdgesTest {
    private static final Class<IndexOutOfBoundsException> INDEX = IndexOutOfBoundsException.class;
    private static final Class<IllegalArgumentException> ARGUMENT = IllegalArgumentException.class;
    private static final Class<IllegalStateException> STATE = IllegalStateException.class;
    private static final int MIN = Integer.MIN_VALUE;
    private static final int MAX = Integer.MAX_VALUE;

    private static final Checks CHECKS = new Checks();
    private static final Twins TWINS = new Twins(CHECKS);

    public static void main(String[] args) {
        atMost512Calls();
        atMost6Towns();
        stepsAndTeethAreNumberedFrom0();
        aPinForEachToothAtEachStep();
        dullIfTheWearIsAtLeastSetting1();
        rightWrongAndMissing();
        aDullToothIsSilentWheneverItSounded();
        aPinFallsIntoTheBox();
        lessThanSetting0StepsAgo();
        theLatestSoundOfThisTooth();
        inThisPlaying();
        anyOtherPinSoundsAndWears();
        settingsAtFirst();
        theRestFrom0To24();
        theDullWearFrom1To100();
        theMostPinsFrom1To999();
        savesAlsoIfItChangesNothing();
        savesNotIfItThrows();
        savesAllButTheBuffer();
        atMost6StatesAreSaved();
        theOldestStateIsDroppedFirst();
        theExceptionThatIsNamedFirst();
        theArgumentAheadOfTheState();
        CHECKS.end();
    }

    private static void due(String call, long want, long got) {
        CHECKS.due(call, want, got);
    }

    /** "An object is used for at most 512 calls": the 512th one still answers. */
    private static void atMost512Calls() {
        DrumTowns land = Lands.two(200, 200, 999);
        for (int calls = 4; calls <= 512; calls++) {
            boolean there = calls % 2 == 0;
            int want = (calls - 2) / 2 * 200;
            due("lend as call " + calls, want, there ? land.lend(0, 1, 200) : land.lend(1, 0, 200));
        }
        DrumTowns player = Lands.put(Lands.one(1, 200), 0, 23, 11);
        player.set(1, 100);
        int sounds = 0;
        for (int calls = 5; calls < 512; calls++) {
            sounds += player.play(0);
        }
        due("sounds of 507 playings until the tooth is dull", 100, sounds);
        due("town(0, 8) as call 512", 507, player.town(0, 8));
    }

    /** "There are at most 6 towns, numbered from 0 in the order in which they came." */
    private static void atMost6Towns() {
        DrumTowns land = new DrumTowns();
        for (int i = 0; i < 6; i++) {
            due("addTown", i, land.addTown(10 + i));
        }
        for (int i = 0; i < 6; i++) {
            due("the pins of the town that came as number " + i, 10 + i, land.town(i, 0));
        }
        TWINS.refused("at most 6 towns", STATE, Lands::six, x -> x.addTown(0));
    }

    /** "a drum with 24 steps and 12 teeth, both numbered from 0" */
    private static void stepsAndTeethAreNumberedFrom0() {
        DrumTowns land = Lands.put(Lands.one(4, 200), 0, 0, 0, 0, 11, 23, 0, 23, 11);
        due("the first step", 1 | 1 << 11, land.step(0, 0, 0));
        due("the last step", 1 | 1 << 11, land.step(0, 23, 0));
        for (int i = 1; i < 23; i++) {
            due("the step " + i, 0, land.step(0, i, 0));
        }
    }

    /** "at each step of the drum there can be a pin for each tooth, at first there is none" */
    private static void aPinForEachToothAtEachStep() {
        DrumTowns land = Lands.two(200, 200, 400);
        land.lend(1, 0, 200);
        due("at first there is no pin", 0, land.town(0, 1));
        for (int i = 0; i < 24 * 12; i++) {
            due("put of pin " + i, i + 1, land.put(0, i / 12, i % 12));
        }
        for (int i = 0; i < 24; i++) {
            due("the full step " + i, 4095, land.step(0, i, 0));
        }
        CHECKS.dueThrow("put into a full drum", STATE, land, () -> land.put(0, 12, 6));
        due("box", 400 - 288, land.town(0, 0));
        due("bestTurn of a full drum", 0, land.bestTurn(0, 0));
        due("rest 2: each tooth at each other step", 144 - 24, land.ifPlayed(0, 0));
        due("play of a full drum: 10 sounds a tooth", 120, land.play(0));
        // The tooth sounds at 0, 2 .. 18 and is dull then: its pins at 19 to 23 fall.
        due("fallen", 12 * 5, land.town(0, 10));
        due("dull teeth", 12, land.town(0, 11));
        due("step(0, 18, 0)", 4095, land.step(0, 18, 0));
        due("step(0, 19, 0)", 0, land.step(0, 19, 0));
        due("play again", 0, land.play(0));
        due("all pins are in the box", 400, land.town(0, 0));
        due("pins are never made", 400, land.count(1));
    }

    /** "each has wear, at first 0, and is dull if its wear is at least setting 1" */
    private static void dullIfTheWearIsAtLeastSetting1() {
        DrumTowns land = Lands.put(Lands.one(1, 200), 0, 0, 5);
        for (int i = 0; i < 12; i++) {
            due("wear at first", 0, land.wear(0, i));
        }
        due("no tooth is dull at first", 0, land.town(0, 11));
        land.set(1, 3);
        land.play(0);
        land.play(0);
        due("wear 2 below setting 1", 0, land.town(0, 11));
        land.play(0);
        due("wear 3 by setting 1", 1, land.town(0, 11));
        land.set(1, 4);
        due("wear 3 below setting 1, when it is 4", 0, land.town(0, 11));
        land.set(1, 2);
        due("wear 3 above setting 1", 1, land.town(0, 11));
    }

    /** "A pin of the drum is right if its step and its tooth are in the tune, otherwise wrong; .. missing." */
    private static void rightWrongAndMissing() {
        DrumTowns land = Lands.one(20, 200);
        due("the tune is empty at first", 0, land.town(0, 2));
        Lands.put(land, 0, 3, 4);
        due("a pin without a tune is wrong", 1, land.town(0, 4));
        due("a pin without a tune is not right", 0, land.town(0, 3));
        Checks.learn(land, 0, "---f");
        dueRightWrongMissing("the step alone", land, 0, 1, 1);
        Checks.learn(land, 0, "--e-e");
        dueRightWrongMissing("the tooth alone", land, 0, 1, 2);
        Checks.learn(land, 0, "---(de)");
        dueRightWrongMissing("its step and its tooth", land, 1, 0, 1);
        Lands.put(land, 0, 3, 3);
        dueRightWrongMissing("the whole tune", land, 2, 0, 0);
        Lands.put(land, 0, 3, 2);
        dueRightWrongMissing("the whole tune and a pin more", land, 2, 1, 0);
    }

    private static void dueRightWrongMissing(String when, DrumTowns land, int right, int wrong, int missing) {
        due("right: " + when, right, land.town(0, 3));
        due("wrong: " + when, wrong, land.town(0, 4));
        due("missing: " + when, missing, land.town(0, 5));
    }

    /** "A pin whose tooth is dull by then is silent (whenever it sounded)" */
    private static void aDullToothIsSilentWheneverItSounded() {
        DrumTowns land = Lands.put(Lands.one(5, 200), 0, 0, 3, 4, 3, 5, 3, 8, 3, 23, 3);
        land.set(0, 4);
        land.set(1, 2);
        // It sounds at 0 and at 4, and is dull by then: the pin at 5 would be at rest, those at 8 and 23 not.
        due("sounds", 2, land.ifPlayed(0, 0));
        due("silent and stay", 0, land.ifPlayed(0, 1));
        due("fall", 3, land.ifPlayed(0, 2));
        due("play(0)", 2, land.play(0));
        due("the pin at its last sound stays", 1 << 3, land.step(0, 4, 0));
        due("a pin at rest fell", 0, land.step(0, 5, 0));
        due("a pin after the rest fell", 0, land.step(0, 8, 0));
        due("a pin at the last step fell", 0, land.step(0, 23, 0));
        due("the tooth is dull from the first step on", 0, land.play(0));
        due("all fell", 0, land.town(0, 1));
        due("a dull tooth is not worn more", 2, land.wear(0, 3));
    }

    /** "it falls out of the drum into the box of the town" */
    private static void aPinFallsIntoTheBox() {
        DrumTowns land = Lands.put(Lands.two(2, 2, 200), 0, 0, 0, 7, 0);
        land.set(1, 1);
        land.play(0);
        due("the box of the town", 1, land.town(0, 0));
        due("the box of another town", 2, land.town(1, 0));
        due("the drum", 1, land.town(0, 1));
        due("fallen", 1, land.town(0, 10));
    }

    /** "A pin whose tooth sounded less than setting 0 steps ago .. is silent, too; it stays." */
    private static void lessThanSetting0StepsAgo() {
        for (int rest = 0; rest <= 24; rest++) {
            for (int step = 1; step <= 23; step++) {
                DrumTowns land = Lands.put(Lands.one(2, 200), 0, 0, 6, step, 6);
                land.set(0, rest);
                boolean sounds = step >= rest;
                String when = "rest " + rest + ", pins at 0 and " + step + ": ";
                due(when + "step(.., 2)", sounds ? 1 << 6 : 0, land.step(0, step, 2));
                due(when + "silent and stay", sounds ? 0 : 1, land.ifPlayed(0, 1));
                due(when + "play", sounds ? 2 : 1, land.play(0));
                due(when + "both stay", 2, land.town(0, 1));
                due(when + "wear", sounds ? 2 : 1, land.wear(0, 6));
            }
        }
    }

    /** "that of the latest sound of this tooth": no other tooth's, no silent pin's, no earlier sound's. */
    private static void theLatestSoundOfThisTooth() {
        DrumTowns other = Lands.put(Lands.one(4, 200), 0, 0, 6, 1, 5, 1, 7, 2, 6);
        other.set(0, 2);
        due("other teeth do not rest with it", 4, other.play(0));
        DrumTowns silent = Lands.put(Lands.one(3, 200), 0, 0, 6, 2, 6, 3, 6);
        silent.set(0, 3);
        due("a silent pin is no sound", 2, silent.play(0));
        DrumTowns latest = Lands.put(Lands.one(3, 200), 0, 0, 6, 3, 6, 5, 6);
        latest.set(0, 3);
        due("the latest sound, not the first one", 2, latest.play(0));
    }

    /** "in this playing": what sounded at the end of the one before it does not count. */
    private static void inThisPlaying() {
        DrumTowns land = Lands.put(Lands.one(2, 200), 0, 0, 6, 23, 6);
        land.set(0, 23);
        due("the first playing", 2, land.play(0));
        due("the step 0 of the second playing", 1 << 6, land.step(0, 0, 2));
        due("the second playing", 2, land.play(0));
        land.set(0, 24);
        due("a playing with the longest rest", 1, land.play(0));
        due("the next one with the longest rest", 1, land.play(0));
    }

    /** "Any other pin sounds; the wear of its tooth becomes 1 more." */
    private static void anyOtherPinSoundsAndWears() {
        DrumTowns land = Lands.put(Lands.one(20, 200), 0, 0, 0, 0, 11, 1, 0, 2, 0, 23, 4);
        due("play", 4, land.play(0));
        due("wear of a tooth that sounded twice and was silent once", 2, land.wear(0, 0));
        due("wear of a tooth that sounded at the first step", 1, land.wear(0, 11));
        due("wear of a tooth that sounded at the last step", 1, land.wear(0, 4));
        due("wear of a tooth without a pin", 0, land.wear(0, 1));
        due("wear of the same tooth elsewhere", 0, Lands.one(0, 200).wear(0, 0));
    }

    /** "0: the rest, .. at first 2; 1: .. at first 10; 2: .. at first 200." */
    private static void settingsAtFirst() {
        DrumTowns land = new DrumTowns();
        due("setting 0 at first", 2, land.setting(0));
        due("setting 1 at first", 10, land.setting(1));
        due("setting 2 at first", 200, land.setting(2));
        land = Lands.put(Checks.landOf(1, 200), 0, 0, 0, 1, 0, 2, 0);
        due("the rest at first", 2, land.ifPlayed(0, 0));
        land.undo();
        for (int i = 1; i <= 10; i++) {
            due("dull at first from 10 on", 0, land.town(0, 11));
            land.play(0);
        }
        due("dull at first by 10", 1, land.town(0, 11));
        DrumTowns full = Checks.landOf(2, 200);
        CHECKS.dueThrow("the most pins at first", STATE, full, () -> full.lend(0, 1, 1));
    }

    private static void dueSettable(int setting, int least, int greatest) {
        String sentence = "setting " + setting + " is " + least + " to " + greatest;
        TWINS.outOfRange(sentence, ARGUMENT, least, greatest, (land, value) -> land.set(setting, value));
        DrumTowns land = new DrumTowns();
        int previous = land.setting(setting);
        for (int value = least; value <= greatest; value += value + 50 < greatest ? 25 : 1) {
            due(sentence + ": set returns the previous value", previous, land.set(setting, value));
            due(sentence + ": setting", value, land.setting(setting));
            previous = value;
        }
        due(sentence + ": the greatest value", greatest, land.setting(setting));
    }

    /** "0: the rest, 0 to 24" */
    private static void theRestFrom0To24() {
        dueSettable(0, 0, 24);
    }

    /** "1: the wear by which a tooth is dull, 1 to 100" */
    private static void theDullWearFrom1To100() {
        dueSettable(1, 1, 100);
        DrumTowns land = Lands.put(Checks.landOf(1, 1), 0, 0, 0);
        land.set(1, 100);
        for (int i = 1; i <= 99; i++) {
            land.play(0);
        }
        due("wear 99 is not dull by 100", 0, land.town(0, 11));
        due("it sounds once more", 1, land.play(0));
        due("wear 100 is dull by 100", 1, land.town(0, 11));
        due("it sounds no more", 0, land.play(0));
        DrumTowns soft = Lands.put(Checks.landOf(1, 2), 0, 0, 0);
        soft.set(1, 1);
        due("wear 0 is not dull by 1", 0, soft.town(0, 11));
        due("it sounds once", 1, soft.play(0));
        due("wear 1 is dull by 1", 1, soft.town(0, 11));
    }

    /** "2: the most pins in a box, 1 to 999" */
    private static void theMostPinsFrom1To999() {
        dueSettable(2, 1, 999);
        DrumTowns land = Checks.landOf(6, 200);
        land.set(2, 999);
        for (int i = 1; i <= 3; i++) {
            land.lend(i, 0, 200);
        }
        land.lend(4, 0, 199);
        due("999 pins in a box", 999, land.town(0, 0));
        CHECKS.dueThrow("1000 pins in a box", STATE, land, () -> land.lend(4, 0, 1));
        DrumTowns poor = Lands.two(1, 0, 1);
        due("1 pin in a box", 1, poor.lend(0, 1, 1));
        poor.addTown(1);
        CHECKS.dueThrow("2 pins in a box", STATE, poor, () -> poor.lend(2, 1, 1));
    }

    /** "saves the state from before it (also if it changes nothing)" */
    private static void savesAlsoIfItChangesNothing() {
        TWINS.undoes("set to the same value", Lands::busy, land -> land.set(1, 10));
        TWINS.undoes("turn by 0", Lands::busy, land -> land.turn(0, 0));
        TWINS.undoes("trade of two empty drums", Lands::six, land -> land.trade(4, 5));
        TWINS.undoes("file of a tooth without wear", Lands::six, land -> land.file(0, 0));
        TWINS.undoes("settle without a ring", Lands::six, land -> land.settle());
        TWINS.undoes("learn of the same tune", () -> Lands.withBuffer(Lands.busy(), "-b"), land -> land.learn(2));
        TWINS.undoes("play of an empty drum", Lands::six, land -> land.play(3));
        DrumTowns land = new DrumTowns();
        land.set(0, 2);
        due("one state is saved by set to the same value", 1, land.count(10));
        due("settle of no towns", 0, land.settle());
        due("a second one by settle of no towns", 2, land.count(10));
        due("undo()", 1, land.undo());
        due("undo()", 0, land.undo());
        CHECKS.dueThrow("undo() of none", STATE, land, () -> land.undo());
    }

    /** "and does not throw an exception" */
    private static void savesNotIfItThrows() {
        TWINS.refused("addTown", ARGUMENT, Lands::busy, land -> land.addTown(-1));
        TWINS.refused("set", INDEX, Lands::busy, land -> land.set(3, 1));
        TWINS.refused("put", STATE, Lands::busy, land -> land.put(0, 0, 0));
        TWINS.refused("pull", STATE, Lands::busy, land -> land.pull(0, 0, 1));
        TWINS.refused("move", STATE, Lands::busy, land -> land.move(0, 1, 0, 0));
        TWINS.refused("trade", ARGUMENT, Lands::busy, land -> land.trade(0, 0));
        TWINS.refused("turn", ARGUMENT, Lands::busy, land -> land.turn(0, 24));
        TWINS.refused("file", INDEX, Lands::busy, land -> land.file(0, 12));
        TWINS.refused("play", INDEX, Lands::busy, land -> land.play(3));
        TWINS.refused("lend", STATE, Lands::busy, land -> land.lend(0, 1, 15));
        TWINS.refused("repay", STATE, Lands::busy, land -> land.repay(0, 1, 4));
        TWINS.refused("learn", ARGUMENT, Lands::busy, land -> land.learn(0));
    }

    /** "all but the buffer and the saved states" */
    private static void savesAllButTheBuffer() {
        DrumTowns land = Lands.withBuffer(Checks.landOf(2, 20), "ab");
        land.put(0, 0, 0);
        land.append('c');
        land.undo();
        due("what was appended stays", 3, land.clearBuffer());
        land.put(0, 0, 0);
        land.undo();
        due("what was cleared stays cleared", 0, land.clearBuffer());
        Checks.learn(land, 1, "a-(kl)");
        due("undo() of learn", 2, land.undo());
        due("the tune is gone", 0, land.town(1, 2));
        due("the buffer stays clear", 0, land.firstError());
        due("the buffer is empty", 1, land.append('a'));
        land.undo();
        due("two saved states are not brought back", 1, land.count(10));
    }

    /** "At most 6 states are saved" */
    private static void atMost6StatesAreSaved() {
        DrumTowns land = new DrumTowns();
        for (int i = 1; i <= 20; i++) {
            land.set(1, i);
            due("saved states", Math.min(i, 6), land.count(10));
        }
        for (int left = 5; left >= 0; left--) {
            due("undo()", left, land.undo());
        }
        CHECKS.dueThrow("a 7th undo()", STATE, land, () -> land.undo());
        due("the setting after 6 times undo()", 14, land.setting(1));
    }

    /** "the oldest one is dropped first" */
    private static void theOldestStateIsDroppedFirst() {
        DrumTowns land = new DrumTowns();
        for (int i = 1; i <= 7; i++) {
            land.set(1, 20 + i);
        }
        for (int i = 6; i >= 1; i--) {
            land.undo();
            due("the setting before set " + (i + 1), 20 + i, land.setting(1));
        }
        due("no state is left", 0, land.count(10));
        for (int i = 1; i <= 4; i++) {
            land.set(1, 50 + i);
        }
        land.undo();
        land.undo();
        for (int i = 1; i <= 5; i++) {
            land.set(1, 60 + i);
        }
        int[] want = {64, 63, 62, 61, 52, 51};
        for (int setting : want) {
            land.undo();
            due("the setting after more calls and undos", setting, land.setting(1));
        }
        due("no state is left then", 0, land.count(10));
    }

    /** "If several exceptions apply, the one that is named first in the throws clause is thrown." */
    private static void theExceptionThatIsNamedFirst() {
        TWINS.refused("set: setting, value", INDEX, Lands::busy, x -> x.set(3, MIN));
        TWINS.refused("set: setting, value", INDEX, Lands::busy, x -> x.set(-1, MAX));
        TWINS.refused("trade: town, same", INDEX, Lands::busy, x -> x.trade(3, 3));
        TWINS.refused("turn: town, by", INDEX, Lands::busy, x -> x.turn(3, 24));
        TWINS.refused("learn: town, no tune", INDEX, Lands::busy, x -> x.learn(3));
        TWINS.refused("town: town, what", INDEX, Lands::busy, x -> x.town(3, 12));
        TWINS.refused("step: town, what", INDEX, Lands::busy, x -> x.step(3, 0, 3));
        TWINS.refused("step: step, what", INDEX, Lands::busy, x -> x.step(0, 24, 3));
        TWINS.refused("ifPlayed: town, what", INDEX, Lands::busy, x -> x.ifPlayed(3, 5));
        TWINS.refused("bestTurn: town, what", INDEX, Lands::busy, x -> x.bestTurn(3, 2));
        TWINS.refused("put: town, full place", INDEX, Lands::busy, x -> x.put(-1, 0, 0));
        TWINS.refused("put: step, empty box", INDEX, () -> Lands.one(0, 5), x -> x.put(0, 24, 0));
        TWINS.refused("put: tooth, empty box", INDEX, () -> Lands.one(0, 5), x -> x.put(0, 0, 12));
        TWINS.refused("pull: step, full box", INDEX, () -> Lands.one(5, 5), x -> x.pull(0, -1, 0));
        TWINS.refused("pull: tooth, full box", INDEX, () -> Lands.one(5, 5), x -> x.pull(0, 0, -1));
        TWINS.refused("move: town, same", INDEX, Lands::busy, x -> x.move(3, 3, 0, 0));
        TWINS.refused("move: step, same", INDEX, Lands::busy, x -> x.move(0, 0, 24, 0));
        TWINS.refused("move: tooth, same", INDEX, Lands::busy, x -> x.move(0, 0, 0, 12));
        TWINS.refused("move: other town, no pin", INDEX, Lands::busy, x -> x.move(0, 3, 0, 1));
        TWINS.refused("lend: town, same", INDEX, Lands::busy, x -> x.lend(3, 3, 1));
        TWINS.refused("lend: town, pins", INDEX, Lands::busy, x -> x.lend(0, 3, 0));
        TWINS.refused("lend: other town, too few pins", INDEX, Lands::busy, x -> x.lend(0, 3, 200));
        TWINS.refused("repay: town, same", INDEX, Lands::busy, x -> x.repay(3, 3, 1));
        TWINS.refused("repay: town, pins", INDEX, Lands::busy, x -> x.repay(-1, 0, 201));
        TWINS.refused("repay: other town, no debt", INDEX, Lands::busy, x -> x.repay(0, -1, 200));
    }

    /** The same sentence, for the IllegalArgumentException that is named ahead of the IllegalStateException. */
    private static void theArgumentAheadOfTheState() {
        TWINS.refused("addTown: below 0, 6 towns", ARGUMENT, Lands::six, x -> x.addTown(-1));
        TWINS.refused("addTown: above 200, 6 towns", ARGUMENT, Lands::six, x -> x.addTown(201));
        TWINS.refused("addTown: above 200, above setting 2", ARGUMENT, Lands::busy, x -> x.addTown(201));
        TWINS.refused("move: same, no pin", ARGUMENT, Lands::busy, x -> x.move(1, 1, 9, 9));
        TWINS.refused("move: same, a pin there", ARGUMENT, Lands::busy, x -> x.move(0, 0, 0, 0));
        TWINS.refused("lend: same, too few pins", ARGUMENT, Lands::busy, x -> x.lend(0, 0, 200));
        TWINS.refused("lend: 201, too few pins", ARGUMENT, Lands::busy, x -> x.lend(0, 1, 201));
        TWINS.refused("lend: 0, a full box", ARGUMENT, () -> Lands.two(5, 5, 5), x -> x.lend(0, 1, 0));
        TWINS.refused("repay: same, no debt", ARGUMENT, Lands::busy, x -> x.repay(0, 0, 1));
        TWINS.refused("repay: 201, no debt", ARGUMENT, Lands::busy, x -> x.repay(2, 0, 201));
        TWINS.refused("repay: 0, a full box", ARGUMENT, () -> Lands.two(5, 5, 5), x -> x.repay(0, 1, 0));
        TWINS.refused("append: 32, 60 characters", ARGUMENT, TermEdgesTest::withFullBuffer, x -> x.append(32));
        TWINS.refused("append: 127, 60 characters", ARGUMENT, TermEdgesTest::withFullBuffer, x -> x.append(127));
    }

    private static DrumTowns withFullBuffer() {
        return Lands.withBuffer(new DrumTowns(), "-".repeat(60));
    }
}
