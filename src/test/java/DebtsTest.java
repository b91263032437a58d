/** Promises 11 to 13: debts. */
public final class DebtsTest {
    private static final Class<IndexOutOfBoundsException> INDEX = IndexOutOfBoundsException.class;
    private static final Class<IllegalArgumentException> ARGUMENT = IllegalArgumentException.class;
    private static final Class<IllegalStateException> STATE = IllegalStateException.class;

    private static final Checks CHECKS = new Checks();

    public static void main(String[] args) {
        promise11Lend();
        promise12Repay();
        promise13Settle();
        promise13SettleTakesTheFirstRingFirst();
        CHECKS.end();
    }

    private static void due(String call, long want, long got) {
        CHECKS.due(call, want, got);
    }

    private static void promise11Lend() {
        DrumTowns land = Checks.landOf(3, 100);
        CHECKS.dueThrow("lend(3, 0, 1)", INDEX, land, () -> land.lend(3, 0, 1));
        CHECKS.dueThrow("lend(0, 3, 1)", INDEX, land, () -> land.lend(0, 3, 1));
        CHECKS.dueThrow("lend(-1, -1, 0)", INDEX, land, () -> land.lend(-1, -1, 0));
        CHECKS.dueThrow("lend(1, 1, 1)", ARGUMENT, land, () -> land.lend(1, 1, 1));
        CHECKS.dueThrow("lend(0, 1, 0)", ARGUMENT, land, () -> land.lend(0, 1, 0));
        CHECKS.dueThrow("lend(0, 1, 201)", ARGUMENT, land, () -> land.lend(0, 1, 201));
        CHECKS.dueThrow("lend(0, 1, MAX)", ARGUMENT, land, () -> land.lend(0, 1, Integer.MAX_VALUE));
        CHECKS.dueThrow("lend(0, 1, 101)", STATE, land, () -> land.lend(0, 1, 101));
        due("lend(0, 1, 30)", 30, land.lend(0, 1, 30));
        due("lend(0, 1, 5)", 35, land.lend(0, 1, 5));
        due("debt(1, 0)", 35, land.debt(1, 0));
        due("debt(0, 1)", 0, land.debt(0, 1));
        due("box of 0", 65, land.town(0, 0));
        due("box of 1", 135, land.town(1, 0));
        due("lend(1, 0, 1): debts both ways", 1, land.lend(1, 0, 1));
        due("debt(1, 0) stays", 35, land.debt(1, 0));
        due("lent", 36, land.count(5));
        land.set(2, 140);
        CHECKS.dueThrow("lend(0, 1, 7) over the limit", STATE, land, () -> land.lend(0, 1, 7));
        due("lend(0, 1, 6) up to the limit", 41, land.lend(0, 1, 6));
        due("lend(0, 2, 40)", 40, land.lend(0, 2, 40));
        due("box of 0", 20, land.town(0, 0));
        land.undo();
        due("debt(2, 0) after undo", 0, land.debt(2, 0));
        due("lent after undo", 42, land.count(5));
        due("box of 2 after undo", 100, land.town(2, 0));
        DrumTowns all = Checks.landOf(2, 0);
        all.undo();
        all.addTown(200);
        all.set(2, 200);
        due("lend(1, 0, 200)", 200, all.lend(1, 0, 200));
        due("its box", 0, all.town(1, 0));
    }

    private static void promise12Repay() {
        DrumTowns land = Checks.landOf(2, 50);
        land.lend(0, 1, 20);
        CHECKS.dueThrow("repay(2, 0, 1)", INDEX, land, () -> land.repay(2, 0, 1));
        CHECKS.dueThrow("repay(1, 2, 1)", INDEX, land, () -> land.repay(1, 2, 1));
        CHECKS.dueThrow("repay(-1, -1, 0)", INDEX, land, () -> land.repay(-1, -1, 0));
        CHECKS.dueThrow("repay(1, 1, 1)", ARGUMENT, land, () -> land.repay(1, 1, 1));
        CHECKS.dueThrow("repay(1, 0, 0)", ARGUMENT, land, () -> land.repay(1, 0, 0));
        CHECKS.dueThrow("repay(1, 0, 201)", ARGUMENT, land, () -> land.repay(1, 0, 201));
        CHECKS.dueThrow("repay(0, 1, 1) without a debt", STATE, land, () -> land.repay(0, 1, 1));
        CHECKS.dueThrow("repay(1, 0, 21) of 20", STATE, land, () -> land.repay(1, 0, 21));
        due("repay(1, 0, 8)", 12, land.repay(1, 0, 8));
        due("box of 0", 38, land.town(0, 0));
        due("box of 1", 62, land.town(1, 0));
        due("debt(1, 0)", 12, land.debt(1, 0));
        due("repaid", 8, land.count(6));
        land.set(2, 40);
        CHECKS.dueThrow("repay(1, 0, 3) over the limit", STATE, land, () -> land.repay(1, 0, 3));
        due("repay(1, 0, 2) up to the limit", 10, land.repay(1, 0, 2));
        due("repaid", 10, land.count(6));
        due("lent", 20, land.count(5));
        land.undo();
        due("repaid after undo", 8, land.count(6));
        due("debt(1, 0) after undo", 12, land.debt(1, 0));
        DrumTowns poor = new DrumTowns();
        poor.addTown(3);
        poor.addTown(0);
        poor.lend(0, 1, 3);
        poor.put(1, 0, 0);
        CHECKS.dueThrow("repay(1, 0, 3) with 2 in the box", STATE, poor, () -> poor.repay(1, 0, 3));
        due("repay(1, 0, 2)", 1, poor.repay(1, 0, 2));
        due("debt(1, 0)", 1, poor.debt(1, 0));
        poor.pull(1, 0, 0);
        due("repay(1, 0, 1)", 0, poor.repay(1, 0, 1));
        due("pairs that owe", 0, poor.count(4));
    }

    private static void promise13Settle() {
        DrumTowns land = Checks.landOf(4, 100);
        due("settle() without debts", 0, land.settle());
        due("it saves", 5, land.count(10));
        land.lend(0, 1, 10);
        due("settle() without a ring", 0, land.settle());
        land.lend(1, 0, 4);
        due("settle() a ring of 2", 1, land.settle());
        due("debt(1, 0)", 6, land.debt(1, 0));
        due("debt(0, 1)", 0, land.debt(0, 1));
        due("rings", 1, land.count(7));
        due("settled", 8, land.count(8));
        due("boxes stay", 94, land.town(0, 0));
        land.lend(3, 0, 9);
        land.lend(1, 3, 7);
        due("debts", 22, land.count(3));
        due("settle() a ring of 3", 1, land.settle());
        due("debt(1, 0)", 0, land.debt(1, 0));
        due("debt(0, 3)", 3, land.debt(0, 3));
        due("debt(3, 1)", 1, land.debt(3, 1));
        due("rings", 2, land.count(7));
        due("settled", 26, land.count(8));
        due("debts", 4, land.count(3));
        due("nothing is repaid by it", 0, land.count(6));
        land.undo();
        due("rings after undo", 1, land.count(7));
        due("settled after undo", 8, land.count(8));
        due("debts after undo", 22, land.count(3));
    }

    private static void promise13SettleTakesTheFirstRingFirst() {
        DrumTowns land = Checks.landOf(6, 100);
        owe(land, 0, 1, 5);
        owe(land, 1, 2, 5);
        owe(land, 2, 0, 5);
        owe(land, 2, 1, 3);
        owe(land, 4, 5, 2);
        owe(land, 5, 4, 8);
        // The rings 1 2 (by 3) and 4 5 (by 2) are shorter than 0 1 2, which has 2 left then.
        due("settle()", 3, land.settle());
        due("debt(0, 1)", 3, land.debt(0, 1));
        due("debt(1, 2)", 0, land.debt(1, 2));
        due("debt(2, 0)", 3, land.debt(2, 0));
        due("debt(2, 1)", 0, land.debt(2, 1));
        due("debt(4, 5)", 0, land.debt(4, 5));
        due("debt(5, 4)", 6, land.debt(5, 4));
        due("settled", 6 + 4 + 6, land.count(8));
        due("rings", 3, land.count(7));

        DrumTowns two = Checks.landOf(3, 100);
        owe(two, 0, 1, 4);
        owe(two, 1, 0, 1);
        owe(two, 0, 2, 4);
        owe(two, 2, 0, 2);
        owe(two, 1, 2, 9);
        owe(two, 2, 1, 9);
        // 0 1 by 1, 0 2 by 2, 1 2 by 9; nothing is owed to 0 then.
        due("settle() rings of 2 only", 3, two.settle());
        due("debt(0, 1)", 3, two.debt(0, 1));
        due("debt(0, 2)", 2, two.debt(0, 2));
        due("pairs", 2, two.count(4));

        DrumTowns six = Checks.landOf(6, 100);
        for (int i = 0; i < 6; i++) {
            owe(six, i, (i + 5) % 6, 10 + i);
        }
        due("settle() a ring of 6", 1, six.settle());
        due("debts", 15, six.count(3));
        due("settled", 60, six.count(8));
    }

    private static void owe(DrumTowns land, int from, int to, int pins) {
        land.lend(to, from, pins);
    }
}
