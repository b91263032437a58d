/** The boundary cases that promises 11 to 13, and the terms under "Debts", name. */
public final class DebtEdgesTest {
    private static final Class<IllegalArgumentException> ARGUMENT = IllegalArgumentException.class;
    private static final Class<IllegalStateException> STATE = IllegalStateException.class;

    private static final Checks CHECKS = new Checks();
    private static final Twins TWINS = new Twins(CHECKS);

    public static void main(String[] args) {
        whenATownLends();
        whenATownRepays();
        aRingOf2To6Towns();
        aRowThatIsNotARing();
        aRingIsToldFromItsLowestTownOn();
        theShortestRingsFirst();
        theLowestTownFirstAndSoOn();
        settlingTakesTheFirstRing();
        settlingGoesOnAsLongAsThereIsARing();
        settlingGoesOnWithLongerRings();
        settlingTakesTheLeastOfTheDebts();
        promise11NoSuchTown();
        promise11BothTownsAreTheSame();
        promise11PinsOutOfRange();
        promise11ItsBoxHasFewerPins();
        promise11TheOtherBoxWouldHaveMore();
        promise11ReturnsWhatTheOtherOwes();
        promise11Undoable();
        promise12NoSuchTown();
        promise12BothTownsAreTheSame();
        promise12PinsOutOfRange();
        promise12ItOwesFewer();
        promise12ItsBoxHasFewer();
        promise12TheOtherBoxWouldHaveMore();
        promise12ReturnsWhatItOwes();
        promise12Undoable();
        promise13ReturnsHowManyRings();
        promise13Undoable();
        CHECKS.end();
    }

    private static void due(String call, long want, long got) {
        CHECKS.due(call, want, got);
    }

    /** "When a town lends pins to another one, they go from its box to the other one's, and the other one owes" */
    private static void whenATownLends() {
        DrumTowns land = Lands.two(20, 20, 200);
        land.lend(0, 1, 7);
        due("the box that they go from", 13, land.town(0, 0));
        due("the box that they go to", 27, land.town(1, 0));
        due("the other one owes", 7, land.debt(1, 0));
        due("the one owes nothing", 0, land.debt(0, 1));
        land.lend(1, 0, 3);
        due("what the one owes then", 3, land.debt(0, 1));
        due("what the other one owes is not less by it", 7, land.debt(1, 0));
    }

    /** "When a town repays, they go back, and it owes so many less." */
    private static void whenATownRepays() {
        DrumTowns land = Lands.two(20, 20, 200);
        land.lend(0, 1, 7);
        land.lend(1, 0, 3);
        land.repay(1, 0, 6);
        due("the box that they go back to", 20 - 7 + 3 + 6, land.town(0, 0));
        due("the box that they go from", 20 + 7 - 3 - 6, land.town(1, 0));
        due("it owes so many less", 1, land.debt(1, 0));
        due("what it is owed stays", 3, land.debt(0, 1));
    }

    private static void dueRing(String sentence, DrumTowns land, int least, int... towns) {
        due(sentence + ": ring(0)", towns.length == 0 ? DrumTowns.NONE : towns.length, land.ring(0));
        due(sentence + ": ring(1)", least, land.ring(1));
        for (int i = 0; i < 6; i++) {
            due(sentence + ": ring(" + (10 + i) + ")", i < towns.length ? towns[i] : DrumTowns.NONE,
                    land.ring(10 + i));
        }
    }

    /** Each of the towns owes so many pins to the next one, and the last one to the first one. */
    private static void oweAround(DrumTowns land, int pins, int... towns) {
        for (int i = 0; i < towns.length; i++) {
            Lands.owe(land, towns[i], towns[(i + 1) % towns.length], pins);
        }
    }

    /** "A ring is a row of 2 to 6 different towns in which each one owes pins to the next one, and the last .." */
    private static void aRingOf2To6Towns() {
        int[] row = {5, 0, 3, 1, 4, 2};
        int[][] told = {{0, 5}, {0, 3, 5}, {0, 3, 1, 5}, {0, 3, 1, 4, 5}, {0, 3, 1, 4, 2, 5}};
        for (int size = 2; size <= 6; size++) {
            DrumTowns land = Lands.six();
            int[] towns = new int[size];
            System.arraycopy(row, 0, towns, 0, size);
            oweAround(land, 4, towns);
            dueRing("a ring of " + size, land, 4, told[size - 2]);
            due("settle() of a ring of " + size, 1, land.settle());
            due("its debts then", 0, land.count(3));
            due("by how much they became less", 4 * size, land.count(8));
            dueRing("after it", land, DrumTowns.NONE);
        }
    }

    /** The same sentence: one debt less makes no ring, and neither do debts that do not go around. */
    private static void aRowThatIsNotARing() {
        for (int size = 2; size <= 6; size++) {
            DrumTowns land = Lands.six();
            for (int i = 0; i + 1 < size; i++) {
                Lands.owe(land, i, i + 1, 2);
            }
            dueRing("a row of " + size, land, DrumTowns.NONE);
            due("settle() of a row of " + size, 0, land.settle());
            due("its debts stay", 2 * (size - 1), land.count(3));
        }
        DrumTowns land = Lands.six();
        for (int i = 0; i < 6; i++) {
            for (int j = i + 1; j < 6; j++) {
                Lands.owe(land, i, j, 1);
            }
        }
        dueRing("all debts to higher towns", land, DrumTowns.NONE);
        Lands.owe(land, 5, 0, 1);
        dueRing("one debt back", land, 1, 0, 5);
        land.repay(5, 0, 1);
        dueRing("a debt that is repaid", land, DrumTowns.NONE);
    }

    /** "it is told from its lowest town on" */
    private static void aRingIsToldFromItsLowestTownOn() {
        int[] row = {4, 1, 5, 2, 3};
        for (int from = 0; from < 5; from++) {
            DrumTowns land = Lands.six();
            for (int i = 0; i < 5; i++) {
                Lands.owe(land, row[(from + i) % 5], row[(from + i + 1) % 5], 3);
            }
            dueRing("a ring whose debts began with " + row[from], land, 3, 1, 5, 2, 3, 4);
        }
    }

    /** "the shortest ones first" */
    private static void theShortestRingsFirst() {
        DrumTowns land = Lands.six();
        oweAround(land, 1, 0, 1, 2, 3, 4, 5);
        dueRing("6 towns", land, 1, 0, 1, 2, 3, 4, 5);
        Lands.owe(land, 5, 1, 1);
        dueRing("5 towns, the lowest of which is higher", land, 1, 1, 2, 3, 4, 5);
        Lands.owe(land, 5, 2, 1);
        dueRing("4 towns, the lowest of which is higher", land, 1, 2, 3, 4, 5);
        Lands.owe(land, 5, 3, 1);
        dueRing("3 towns, the lowest of which is higher", land, 1, 3, 4, 5);
        Lands.owe(land, 5, 4, 1);
        dueRing("2 towns, the lowest of which is higher", land, 1, 4, 5);
    }

    /** Two rings that differ in one town: the one with the lower one there comes first, then the other one. */
    private static void dueFirst(int[] first, int[] second) {
        DrumTowns land = Lands.six();
        int changed = 0;
        for (int i = 0; i < first.length; i++) {
            changed = first[i] != second[i] ? i : changed;
        }
        int ahead = (changed + first.length - 1) % first.length;
        int behind = (changed + 1) % first.length;
        oweAround(land, 2, second);
        Lands.owe(land, first[ahead], first[changed], 2);
        Lands.owe(land, first[changed], first[behind], 2);
        dueRing("the lower one at place " + changed, land, 2, first);
        land.repay(first[changed], first[behind], 2);
        dueRing("the higher one at place " + changed, land, 2, second);
    }

    /** "of these those with the lowest first town first, then with the lowest second town, and so on" */
    private static void theLowestTownFirstAndSoOn() {
        dueFirst(new int[] {0, 1, 2, 3, 4}, new int[] {0, 1, 2, 3, 5});
        dueFirst(new int[] {0, 1, 2, 3, 4}, new int[] {0, 1, 2, 5, 4});
        dueFirst(new int[] {0, 1, 2, 3, 4}, new int[] {0, 1, 5, 3, 4});
        dueFirst(new int[] {0, 1, 2, 3, 4}, new int[] {0, 5, 2, 3, 4});
        dueFirst(new int[] {0, 3, 4, 5, 2}, new int[] {1, 3, 4, 5, 2});
        dueFirst(new int[] {0, 5, 4, 1, 3}, new int[] {0, 5, 4, 2, 3});
        dueFirst(new int[] {0, 4, 1, 5}, new int[] {0, 4, 3, 5});
        dueFirst(new int[] {0, 5, 1}, new int[] {0, 5, 2});
        dueFirst(new int[] {1, 2}, new int[] {1, 3});
        DrumTowns firstTown = Lands.six();
        oweAround(firstTown, 2, 1, 2, 3);
        oweAround(firstTown, 5, 0, 5, 4);
        dueRing("the lowest first town, though the others are higher", firstTown, 5, 0, 5, 4);
        DrumTowns secondTown = Lands.six();
        oweAround(secondTown, 2, 0, 4, 2);
        Lands.owe(secondTown, 0, 3, 6);
        Lands.owe(secondTown, 3, 5, 6);
        Lands.owe(secondTown, 5, 0, 6);
        dueRing("the lowest second town, though the third one is higher", secondTown, 6, 0, 3, 5);
        Lands.owe(secondTown, 0, 1, 9);
        Lands.owe(secondTown, 1, 3, 9);
        dueRing("a lower second town that closes no ring so short", secondTown, 6, 0, 3, 5);
    }

    /** "as long as there is a ring, the first one is taken" */
    private static void settlingTakesTheFirstRing() {
        DrumTowns shared = Lands.six();
        oweAround(shared, 2, 0, 1, 2);
        Lands.owe(shared, 2, 1, 2);
        due("the shorter ring takes the debt that both have", 1, shared.settle());
        due("what the longer one has left", 2, shared.debt(0, 1));
        due("what the longer one has left", 2, shared.debt(2, 0));
        due("the debt that both had", 0, shared.debt(1, 2));
        DrumTowns lower = Lands.six();
        oweAround(lower, 2, 3, 4, 1);
        Lands.owe(lower, 4, 0, 2);
        Lands.owe(lower, 0, 3, 2);
        due("the ring with the lower town takes the debt that both have", 1, lower.settle());
        due("what the other one has left", 2, lower.debt(1, 3));
        due("what the other one has left", 2, lower.debt(4, 1));
        due("what the first one has left", 0, lower.debt(0, 3));
        due("the debt that both had", 0, lower.debt(3, 4));
    }

    /** The same sentence: a ring that is there only because another one left it something is taken, too. */
    private static void settlingGoesOnAsLongAsThereIsARing() {
        DrumTowns land = Lands.six();
        oweAround(land, 5, 0, 1, 2);
        Lands.owe(land, 2, 1, 3);
        Lands.owe(land, 1, 0, 1);
        // 0 1 by 1, 1 2 by 3, 0 1 2 by 2.
        due("settle()", 3, land.settle());
        due("by how much all debts became less", 2 + 6 + 6, land.count(8));
        due("debt(2, 0)", 3, land.debt(2, 0));
        due("debt(0, 1)", 2, land.debt(0, 1));
        due("debts", 5, land.count(3));
        DrumTowns all = Checks.landOf(6, 100);
        for (int i = 0; i < 6; i++) {
            for (int j = 0; j < 6; j++) {
                if (i != j) {
                    Lands.owe(all, i, j, 2);
                }
            }
        }
        due("pairs that owe", 30, all.count(4));
        due("settle() of all pairs", 15, all.settle());
        due("debts of all pairs then", 0, all.count(3));
        due("by how much they became less", 60, all.count(8));
    }

    /** The same sentence: rings of 2 leave one debt of each pair, and rings of 3 are taken of these then. */
    private static void settlingGoesOnWithLongerRings() {
        DrumTowns land = Checks.landOf(6, 100);
        for (int i = 0; i < 6; i++) {
            for (int j = 0; j < 6; j++) {
                int ahead = (j - i + 6) % 6;
                if (ahead != 0) {
                    Lands.owe(land, i, j, ahead < 3 || ahead == 3 && i < 3 ? 2 : 1);
                }
            }
        }
        // 15 rings of 2, then 0 1 4, 0 2 5 and 1 3 5.
        due("settle()", 18, land.settle());
        due("by how much all debts became less", 30 + 9, land.count(8));
        int[][] left = {{0, 3}, {1, 2}, {2, 3}, {2, 4}, {3, 4}, {4, 5}};
        for (int[] pair : left) {
            due("debt(" + pair[0] + ", " + pair[1] + ")", 1, land.debt(pair[0], pair[1]));
        }
        due("debts", 6, land.count(3));
    }

    /** "each of its towns owes to the next one less by the least of the debts in it" */
    private static void settlingTakesTheLeastOfTheDebts() {
        for (int size = 2; size <= 6; size++) {
            for (int least = 0; least < size; least++) {
                DrumTowns land = Checks.landOf(6, 50);
                for (int i = 0; i < size; i++) {
                    Lands.owe(land, i, (i + 1) % size, i == least ? 3 : 7 + i);
                }
                due("ring(1)", 3, land.ring(1));
                due("settle()", 1, land.settle());
                for (int i = 0; i < size; i++) {
                    int want = i == least ? 0 : 4 + i;
                    due("debt " + i + " in a ring of " + size, want, land.debt(i, (i + 1) % size));
                }
                due("the boxes stay", 300, land.count(2));
            }
        }
    }

    /** "IndexOutOfBoundsException if there is no such town" */
    private static void promise11NoSuchTown() {
        TWINS.noSuchTown("lend from it", (land, town) -> land.lend(town, 0, 1));
        TWINS.noSuchTown("lend to it", (land, town) -> land.lend(0, town, 1));
    }

    /** "IllegalArgumentException if both towns are the same" */
    private static void promise11BothTownsAreTheSame() {
        TWINS.refused("lend to itself", ARGUMENT, Lands::busy, land -> land.lend(1, 1, 1));
        TWINS.refused("lend to itself, the last town", ARGUMENT, Lands::six, land -> land.lend(5, 5, 20));
    }

    /** "pins: 1 to 200"; "or pins is out of range" */
    private static void promise11PinsOutOfRange() {
        TWINS.outOfRange("lend: pins is 1 to 200", ARGUMENT, 1, 200, (land, pins) -> land.lend(0, 1, pins));
        TWINS.refused("lend: 201 of 400", ARGUMENT, DebtEdgesTest::rich, land -> land.lend(0, 1, 201));
        due("lend of 1", 1, Lands.busy().lend(0, 2, 1));
        due("lend of 200", 200, rich().lend(0, 2, 200));
    }

    /** Three towns, with 400, 0 and 0 pins, and 999 at the most. */
    private static DrumTowns rich() {
        DrumTowns land = Lands.two(200, 200, 999);
        land.lend(1, 0, 200);
        land.addTown(0);
        return land;
    }

    /** "IllegalStateException if its box has fewer pins" */
    private static void promise11ItsBoxHasFewerPins() {
        TWINS.refused("lend of 6 of 5", STATE, () -> Lands.two(5, 5, 200), land -> land.lend(0, 1, 6));
        TWINS.refused("lend of 1 of 0", STATE, () -> Lands.two(0, 5, 200), land -> land.lend(0, 1, 1));
        TWINS.refused("pins of the drum cannot be lent", STATE,
                () -> Lands.put(Lands.two(5, 5, 200), 0, 0, 0), land -> land.lend(0, 1, 5));
        DrumTowns land = Lands.two(5, 5, 200);
        due("lend of 5 of 5", 5, land.lend(0, 1, 5));
        due("the box then", 0, land.town(0, 0));
    }

    /** "or the box of the other one would have more than setting 2" */
    private static void promise11TheOtherBoxWouldHaveMore() {
        TWINS.refused("lend of 4 to 7 of 10", STATE, () -> Lands.two(9, 7, 10), land -> land.lend(0, 1, 4));
        TWINS.refused("lend of 1 to 10 of 10", STATE, () -> Lands.two(9, 10, 10), land -> land.lend(0, 1, 1));
        TWINS.refused("lend of 1 to 11 of 10", STATE, () -> Lands.two(9, 11, 10), land -> land.lend(0, 1, 1));
        DrumTowns land = Lands.two(9, 7, 10);
        due("lend of 3 to 7 of 10", 3, land.lend(0, 1, 3));
        due("the box then", 10, land.town(1, 0));
        due("lend from a box with more than setting 2", 1, Lands.two(30, 9, 10).lend(0, 1, 1));
    }

    /** "Returns what the other town owes to it then." */
    private static void promise11ReturnsWhatTheOtherOwes() {
        DrumTowns land = Lands.two(20, 20, 200);
        due("lend", 5, land.lend(0, 1, 5));
        due("lend again", 11, land.lend(0, 1, 6));
        due("lend back: a debt of its own", 2, land.lend(1, 0, 2));
        due("lend again after it", 12, land.lend(0, 1, 1));
        due("lent so far", 14, land.count(5));
    }

    private static void promise11Undoable() {
        TWINS.undoes("lend", Lands::busy, land -> land.lend(0, 2, 14));
        TWINS.undoes("lend of 1", () -> Lands.two(1, 0, 1), land -> land.lend(0, 1, 1));
    }

    /** "IndexOutOfBoundsException if there is no such town" */
    private static void promise12NoSuchTown() {
        TWINS.noSuchTown("repay by it", (land, town) -> land.repay(town, 0, 1));
        TWINS.noSuchTown("repay to it", (land, town) -> land.repay(0, town, 1));
    }

    /** "IllegalArgumentException if both towns are the same" */
    private static void promise12BothTownsAreTheSame() {
        TWINS.refused("repay to itself", ARGUMENT, Lands::busy, land -> land.repay(1, 1, 1));
        TWINS.refused("repay to itself, the last town", ARGUMENT, Lands::six, land -> land.repay(5, 5, 20));
    }

    /** Town 1 has 400 pins and owes them all to town 0, which has none. */
    private static DrumTowns inDebt() {
        DrumTowns land = Lands.two(200, 0, 999);
        land.lend(0, 1, 200);
        land.addTown(200);
        land.lend(2, 0, 200);
        land.lend(0, 1, 200);
        return land;
    }

    /** "pins: 1 to 200"; "or pins is out of range" */
    private static void promise12PinsOutOfRange() {
        TWINS.outOfRange("repay: pins is 1 to 200", ARGUMENT, 1, 200, (land, pins) -> land.repay(1, 0, pins));
        TWINS.refused("repay: 201 of 400", ARGUMENT, DebtEdgesTest::inDebt, land -> land.repay(1, 0, 201));
        due("repay of 1", 399, inDebt().repay(1, 0, 1));
        due("repay of 200", 200, inDebt().repay(1, 0, 200));
    }

    /** "IllegalStateException if it owes fewer pins to the other one" */
    private static void promise12ItOwesFewer() {
        TWINS.refused("repay of 6 of 5", STATE, Lands::busy, land -> land.repay(1, 0, 6));
        TWINS.refused("repay of 1 of 0", STATE, Lands::busy, land -> land.repay(0, 2, 1));
        TWINS.refused("what it is owed cannot be repaid", STATE, Lands::busy, land -> land.repay(1, 2, 1));
        TWINS.refused("a debt to another one cannot be repaid", STATE, Lands::busy, land -> land.repay(2, 0, 2));
        due("repay of 5 of 5", 0, Lands.busy().repay(1, 0, 5));
        due("repay of 2 of 2", 0, Lands.busy().repay(2, 1, 2));
    }

    /** "its box has fewer" */
    private static void promise12ItsBoxHasFewer() {
        TWINS.refused("repay of 3 with 2 in the box", STATE, DebtEdgesTest::poor, land -> land.repay(1, 0, 3));
        DrumTowns land = poor();
        due("repay of 2 with 2 in the box", 1, land.repay(1, 0, 2));
        due("the box then", 0, land.town(1, 0));
        CHECKS.dueThrow("repay of 1 with none in the box", STATE, land, () -> land.repay(1, 0, 1));
    }

    /** Town 1 owes 3 pins to town 0, and has 2 in its box and 1 in its drum. */
    private static DrumTowns poor() {
        DrumTowns land = Lands.two(3, 0, 200);
        land.lend(0, 1, 3);
        return Lands.put(land, 1, 0, 0);
    }

    /** Town 1 owes 5 pins to town 0, which has 10 in its box; so many at the most. */
    private static DrumTowns owing(int most) {
        DrumTowns land = Lands.two(15, 0, 200);
        land.lend(0, 1, 5);
        land.set(2, most);
        return land;
    }

    /** "or the box of the other one would have more than setting 2" */
    private static void promise12TheOtherBoxWouldHaveMore() {
        TWINS.refused("repay of 4 to 10 of 13", STATE, () -> owing(13), land -> land.repay(1, 0, 4));
        TWINS.refused("repay of 1 to 10 of 10", STATE, () -> owing(10), land -> land.repay(1, 0, 1));
        TWINS.refused("repay of 1 to 10 of 9", STATE, () -> owing(9), land -> land.repay(1, 0, 1));
        DrumTowns land = owing(13);
        due("repay of 3 to 10 of 13", 2, land.repay(1, 0, 3));
        due("the box then", 13, land.town(0, 0));
    }

    /** "Returns what it owes to the other one then." */
    private static void promise12ReturnsWhatItOwes() {
        DrumTowns land = owing(200);
        due("repay", 3, land.repay(1, 0, 2));
        due("repay again", 2, land.repay(1, 0, 1));
        due("lend, when it owes still", 6, land.lend(0, 1, 4));
        due("repay of all", 0, land.repay(1, 0, 6));
        due("repaid so far", 9, land.count(6));
        due("lent so far", 9, land.count(5));
        due("the box", 15, land.town(0, 0));
    }

    private static void promise12Undoable() {
        TWINS.undoes("repay", Lands::busy, land -> land.repay(1, 0, 5));
    }

    /** "Returns how many rings were taken." */
    private static void promise13ReturnsHowManyRings() {
        due("settle() without towns", 0, new DrumTowns().settle());
        due("settle() of one town", 0, Checks.landOf(1, 5).settle());
        due("settle() without debts", 0, Lands.six().settle());
        DrumTowns land = Lands.busy();
        due("settle() of the ring 0 1", 1, land.settle());
        due("debt(0, 1)", 0, land.debt(0, 1));
        due("debt(1, 0)", 2, land.debt(1, 0));
        due("debt(2, 1)", 2, land.debt(2, 1));
        due("settle() again", 0, land.settle());
        due("rings taken so far", 1, land.count(7));
        oweAround(land, 1, 0, 1, 2);
        // 0 1 and 1 2 by 1 each.
        due("settle() of two rings", 2, land.settle());
        due("rings taken so far", 3, land.count(7));
        due("by how much debts became less so far", 6 + 2 + 2, land.count(8));
    }

    private static void promise13Undoable() {
        TWINS.undoes("settle", Lands::busy, land -> land.settle());
        TWINS.undoes("settle without a ring", Lands::six, land -> land.settle());
        TWINS.undoes("settle without towns", Lands::none, land -> land.settle());
    }
}
