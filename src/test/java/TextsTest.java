/** Promises 14 to 18: texts, and undo. */
public final class TextsTest {
    private static final Class<IndexOutOfBoundsException> INDEX = IndexOutOfBoundsException.class;
    private static final Class<IllegalArgumentException> ARGUMENT = IllegalArgumentException.class;
    private static final Class<IllegalStateException> STATE = IllegalStateException.class;

    private static final String OF_24 = "abcdefghijkl------------";

    private static final Checks CHECKS = new Checks();

    public static void main(String[] args) {
        promise14Append();
        promise15ClearBuffer();
        promise16FirstError();
        promise16FirstErrorOfLongTexts();
        promise17Learn();
        promise17LearnRefuses();
        promise18Undo();
        promise18UndoBringsBackAll();
        promise18EachUndoableCallSaves();
        CHECKS.end();
    }

    private static void due(String call, long want, long got) {
        CHECKS.due(call, want, got);
    }

    private static void promise14Append() {
        DrumTowns land = new DrumTowns();
        CHECKS.dueThrow("append(32)", ARGUMENT, land, () -> land.append(32));
        CHECKS.dueThrow("append(127)", ARGUMENT, land, () -> land.append(127));
        CHECKS.dueThrow("append(-1)", ARGUMENT, land, () -> land.append(-1));
        CHECKS.dueThrow("append(97 + 65536)", ARGUMENT, land, () -> land.append(97 + 65536));
        due("append(33)", 1, land.append(33));
        due("append(126)", 2, land.append(126));
        for (int i = 3; i <= 60; i++) {
            due("append(97)", i, land.append(97));
        }
        CHECKS.dueThrow("append(97) to 60", STATE, land, () -> land.append(97));
        CHECKS.dueThrow("append(32) to 60", ARGUMENT, land, () -> land.append(32));
        due("append saves nothing", 0, land.count(10));
        due("clearBuffer()", 60, land.clearBuffer());
        due("append(97) again", 1, land.append(97));
    }

    private static void promise15ClearBuffer() {
        DrumTowns land = new DrumTowns();
        due("clearBuffer() of nothing", 0, land.clearBuffer());
        Checks.append(land, "ab?");
        due("clearBuffer()", 3, land.clearBuffer());
        due("clearBuffer() again", 0, land.clearBuffer());
        due("firstError()", 0, land.firstError());
        due("clearBuffer() saves nothing", 0, land.count(10));
    }

    private static void firstError(String text, int want) {
        DrumTowns land = new DrumTowns();
        Checks.append(land, text);
        due("firstError() of " + text, want, land.firstError());
        due("firstError() leaves the text " + text, text.length(), land.clearBuffer());
    }

    private static void promise16FirstError() {
        firstError("", 0);
        firstError("a", 1);
        firstError("l-l", 3);
        firstError("m", 0);
        firstError("`", 0);
        firstError("A", 0);
        firstError("ab!c!", 2);
        firstError(")", 0);
        firstError("(", 1);
        firstError("((", 1);
        firstError("()", 1);
        firstError("(-", 1);
        firstError("(a", 2);
        firstError("(a)", 2);
        firstError("(a-", 2);
        firstError("(aa", 2);
        firstError("(ba", 2);
        firstError("(ab)", 4);
        firstError("(ab", 3);
        firstError("(abb", 3);
        firstError("(acb", 3);
        firstError("(abm", 3);
        firstError("(ab(", 3);
        firstError("(ab-", 3);
        firstError("(l", 1);
        firstError("(k", 2);
        firstError("(kl", 3);
        firstError("(kk", 2);
        firstError("(kl)", 4);
        firstError("(al", 3);
        firstError("(all", 3);
        firstError("(al)l", 5);
        firstError("(ab))", 4);
        firstError("a(abcdefghijkl)-", 16);
    }

    private static void promise16FirstErrorOfLongTexts() {
        firstError(OF_24, 24);
        firstError(OF_24 + "-", 24);
        firstError(OF_24 + "(", 24);
        firstError(OF_24 + "ab", 24);
        firstError(OF_24.substring(1) + "(ab)", 27);
        firstError(OF_24.substring(1) + "(", 24);
        firstError(OF_24.substring(1) + "(ab)-", 27);
        String brackets = "(abcdefghijkl)(abcdefghijkl)(abcdefghijkl)(abcdefghijkl)";
        firstError(brackets + "(abc", 60);
        firstError(brackets + "---(", 60);
        firstError(brackets + "---)", 59);
    }

    private static void promise17Learn() {
        DrumTowns land = Checks.landOf(2, 10);
        land.put(1, 0, 0);
        due("learn of a-(bl)", 3, Checks.learn(land, 1, "a-(bl)"));
        due("the buffer is clear", 0, land.clearBuffer());
        due("step(1, 0, 1)", 1, land.step(1, 0, 1));
        due("step(1, 1, 1)", 0, land.step(1, 1, 1));
        due("step(1, 2, 1)", 1 << 1 | 1 << 11, land.step(1, 2, 1));
        due("step(1, 3, 1)", 0, land.step(1, 3, 1));
        due("the other town's tune", 0, land.town(0, 2));
        due("right", 1, land.town(1, 3));
        due("missing", 2, land.town(1, 5));
        due("learn of " + OF_24, 12, Checks.learn(land, 1, OF_24));
        due("step(1, 11, 1)", 1 << 11, land.step(1, 11, 1));
        due("learn of -", 0, Checks.learn(land, 1, "-"));
        due("behind its last step there is nothing", 0, land.town(1, 2));
        due("the drum stays", 1, land.town(1, 1));
        due("learn of (abcdefghijkl)", 12, Checks.learn(land, 1, "(abcdefghijkl)"));
        due("step(1, 0, 1)", 4095, land.step(1, 0, 1));
        land.undo();
        due("tune after undo", 0, land.town(1, 2));
        due("undo leaves the buffer clear", 0, land.clearBuffer());
        land.append('a');
        land.undo();
        due("undo leaves the buffer", 1, land.clearBuffer());
        due("tune after two undos", 12, land.town(1, 2));
    }

    private static void promise17LearnRefuses() {
        DrumTowns land = Checks.landOf(1, 10);
        Checks.learn(land, 0, "abc");
        CHECKS.dueThrow("learn(0) of nothing", ARGUMENT, land, () -> land.learn(0));
        CHECKS.dueThrow("learn(1) of nothing", INDEX, land, () -> land.learn(1));
        String[] wrong = {"(", "(a", "(ab", "a(ab", "(a)", "m", "a)", "ab(l", "(ba)", OF_24 + "-", OF_24 + "(ab)"};
        for (String text : wrong) {
            land.clearBuffer();
            Checks.append(land, text);
            CHECKS.dueThrow("learn(0) of " + text, ARGUMENT, land, () -> land.learn(0));
            due("the buffer stays", text.length(), land.clearBuffer());
        }
        land.append('a');
        CHECKS.dueThrow("learn(1)", INDEX, land, () -> land.learn(1));
        CHECKS.dueThrow("learn(-1)", INDEX, land, () -> land.learn(-1));
        due("the tune stays", 3, land.town(0, 2));
        due("learn(0)", 1, land.learn(0));
        due("saved states", 3, land.count(10));
    }

    private static void promise18Undo() {
        DrumTowns land = new DrumTowns();
        CHECKS.dueThrow("undo() of nothing", STATE, land, () -> land.undo());
        land.addTown(50);
        due("undo()", 0, land.undo());
        due("count(0)", 0, land.count(0));
        CHECKS.dueThrow("undo() of nothing more", STATE, land, () -> land.undo());
        land.addTown(50);
        for (int i = 0; i < 9; i++) {
            land.put(0, i, i);
        }
        due("at most 6 are saved", 6, land.count(10));
        for (int left = 5; left >= 0; left--) {
            due("undo()", left, land.undo());
            due("count(10)", left, land.count(10));
            due("drum", 3 + left, land.town(0, 1));
            due("the latest pin is gone", 0, land.step(0, 3 + left, 0));
        }
        CHECKS.dueThrow("the oldest ones are dropped", STATE, land, () -> land.undo());
        due("drum", 3, land.town(0, 1));
        due("put after undo", 4, land.put(0, 20, 0));
        due("one is saved then", 1, land.count(10));
        due("undo() of it", 0, land.undo());
        due("drum", 3, land.town(0, 1));
    }

    private static DrumTowns landOfThree() {
        DrumTowns land = Checks.landOf(3, 40);
        Checks.learn(land, 0, "ab(cd)e");
        land.put(0, 0, 0);
        land.put(1, 3, 4);
        land.lend(0, 1, 5);
        land.lend(1, 0, 3);
        land.set(0, 2);
        return land;
    }

    /** Six calls of which each changes another part of the state; so many undos must bring back all. */
    private static void promise18UndoBringsBackAll() {
        for (int kept = 0; kept <= 6; kept++) {
            DrumTowns like = landOfThree();
            for (int i = 0; i < kept; i++) {
                change(like, i);
            }
            DrumTowns land = landOfThree();
            for (int i = 0; i < 6; i++) {
                change(land, i);
            }
            for (int left = 5; left >= kept; left--) {
                due("undo()", left, land.undo());
            }
            due("all after undo of change " + kept, Twins.digestOfState(like), Twins.digestOfState(land));
        }
    }

    private static void change(DrumTowns land, int which) {
        switch (which) {
            case 0: land.play(0); break;
            case 1: land.settle(); break;
            case 2: land.set(1, 1); break;
            case 3: land.repay(1, 0, 1); break;
            case 4: land.trade(0, 1); break;
            default: land.turn(0, 5); break;
        }
    }

    /** Five states are saved of this land: one call more drops none of them. */
    private static DrumTowns landOfFiveSaved() {
        DrumTowns land = Checks.landOf(2, 40);
        Checks.learn(land, 0, "ab");
        land.put(0, 0, 0);
        land.lend(0, 1, 5);
        land.append('a');
        return land;
    }

    private static void promise18EachUndoableCallSaves() {
        Twins twins = new Twins(CHECKS);
        for (int i = 0; i < 13; i++) {
            int which = i;
            twins.undoes("undoable call " + i, TextsTest::landOfFiveSaved, land -> callUndoable(land, which));
            twins.undoes("undoable call " + i, () -> Lands.withBuffer(landOfThree(), "b"),
                    land -> callUndoable(land, which));
        }
    }

    private static void callUndoable(DrumTowns land, int which) {
        switch (which) {
            case 0: land.addTown(1); break;
            case 1: land.set(0, 2); break;
            case 2: land.put(0, 3, 3); break;
            case 3: land.pull(0, 0, 0); break;
            case 4: land.move(0, 1, 0, 0); break;
            case 5: land.trade(0, 1); break;
            case 6: land.turn(0, 1); break;
            case 7: land.file(0, 0); break;
            case 8: land.play(0); break;
            case 9: land.lend(1, 0, 1); break;
            case 10: land.repay(1, 0, 1); break;
            case 11: land.settle(); break;
            default: land.learn(0); break;
        }
    }
}
