/** Promises 19 to 24: what there is. */
public final class ReadingsTest {
    private static final Class<IndexOutOfBoundsException> INDEX = IndexOutOfBoundsException.class;
    private static final Class<IllegalArgumentException> ARGUMENT = IllegalArgumentException.class;

    private static final Checks CHECKS = new Checks();

    public static void main(String[] args) {
        promise19Town();
        promise20Step();
        promise21Wear();
        promise22Debt();
        promise23Count();
        promise24Setting();
        CHECKS.end();
    }

    private static void due(String call, long want, long got) {
        CHECKS.due(call, want, got);
    }

    /** Three towns with debts each way; the drum of town 1 was played, and a pin fell out of it. */
    private static DrumTowns busyLand() {
        DrumTowns land = Checks.landOf(3, 50);
        Checks.learn(land, 1, "(abc)-(de)f");
        land.set(1, 2);
        land.put(1, 0, 0);
        land.put(1, 2, 0);
        land.put(1, 4, 0);
        land.put(1, 2, 4);
        land.put(1, 9, 9);
        land.play(1);
        land.lend(0, 1, 20);
        land.lend(2, 1, 7);
        land.lend(1, 0, 11);
        land.lend(0, 2, 1);
        land.repay(1, 0, 4);
        return land;
    }

    private static void promise19Town() {
        DrumTowns land = busyLand();
        // box: 50 - 5 put + 1 fallen + 20 + 7 lent to it - 11 lent - 4 repaid
        int[] want = {58, 4, 6, 2, 2, 4, 23, 11, 1, 4, 1, 1};
        for (int what = 0; what <= 11; what++) {
            due("town(1, " + what + ")", want[what], land.town(1, what));
        }
        int[] other = {50 - 7 + 1, 0, 0, 0, 0, 0, 1, 7, 0, 0, 0, 0};
        for (int what = 0; what <= 11; what++) {
            due("town(2, " + what + ")", other[what], land.town(2, what));
        }
        CHECKS.dueThrow("town(3, 0)", INDEX, land, () -> land.town(3, 0));
        CHECKS.dueThrow("town(-1, 0)", INDEX, land, () -> land.town(-1, 0));
        CHECKS.dueThrow("town(3, 12)", INDEX, land, () -> land.town(3, 12));
        CHECKS.dueThrow("town(1, 12)", ARGUMENT, land, () -> land.town(1, 12));
        CHECKS.dueThrow("town(1, -1)", ARGUMENT, land, () -> land.town(1, -1));
        land.file(1, 0);
        due("dull teeth after file", 0, land.town(1, 11));
        land.set(1, 1);
        due("dull teeth by wear 1", 2, land.town(1, 11));
    }

    private static void promise20Step() {
        DrumTowns land = busyLand();
        due("step(1, 2, 0)", 1 | 1 << 4, land.step(1, 2, 0));
        due("step(1, 2, 1)", 1 << 3 | 1 << 4, land.step(1, 2, 1));
        due("step(1, 2, 2): the tooth 0 is dull", 1 << 4, land.step(1, 2, 2));
        due("step(1, 0, 2)", 0, land.step(1, 0, 2));
        due("step(1, 9, 2)", 1 << 9, land.step(1, 9, 2));
        due("step(1, 23, 2)", 0, land.step(1, 23, 2));
        due("nothing is played by it", 1, land.town(1, 8));
        due("nothing falls by it", 1 | 1 << 4, land.step(1, 2, 0));
        CHECKS.dueThrow("step(3, 0, 0)", INDEX, land, () -> land.step(3, 0, 0));
        CHECKS.dueThrow("step(-1, 0, 0)", INDEX, land, () -> land.step(-1, 0, 0));
        CHECKS.dueThrow("step(0, 24, 0)", INDEX, land, () -> land.step(0, 24, 0));
        CHECKS.dueThrow("step(0, -1, 3)", INDEX, land, () -> land.step(0, -1, 3));
        CHECKS.dueThrow("step(0, 0, 3)", ARGUMENT, land, () -> land.step(0, 0, 3));
        CHECKS.dueThrow("step(0, 0, -1)", ARGUMENT, land, () -> land.step(0, 0, -1));
        DrumTowns resting = Checks.landOf(1, 10);
        resting.set(0, 3);
        resting.put(0, 1, 6);
        resting.put(0, 3, 6);
        resting.put(0, 4, 6);
        due("step(0, 1, 2)", 1 << 6, resting.step(0, 1, 2));
        due("step(0, 3, 2) at rest", 0, resting.step(0, 3, 2));
        due("step(0, 4, 2)", 1 << 6, resting.step(0, 4, 2));
    }

    private static void promise21Wear() {
        DrumTowns land = busyLand();
        int[] want = {2, 0, 0, 0, 1, 0, 0, 0, 0, 1, 0, 0};
        for (int i = 0; i < 12; i++) {
            due("wear(1, " + i + ")", want[i], land.wear(1, i));
            due("wear(0, " + i + ")", 0, land.wear(0, i));
        }
        CHECKS.dueThrow("wear(3, 0)", INDEX, land, () -> land.wear(3, 0));
        CHECKS.dueThrow("wear(-1, 0)", INDEX, land, () -> land.wear(-1, 0));
        CHECKS.dueThrow("wear(0, 12)", INDEX, land, () -> land.wear(0, 12));
        CHECKS.dueThrow("wear(0, -1)", INDEX, land, () -> land.wear(0, -1));
    }

    private static void promise22Debt() {
        DrumTowns land = busyLand();
        int[][] want = {{0, 11, 0}, {16, 0, 7}, {1, 0, 0}};
        for (int i = 0; i < 3; i++) {
            for (int j = 0; j < 3; j++) {
                due("debt(" + i + ", " + j + ")", want[i][j], land.debt(i, j));
            }
        }
        CHECKS.dueThrow("debt(3, 0)", INDEX, land, () -> land.debt(3, 0));
        CHECKS.dueThrow("debt(0, 3)", INDEX, land, () -> land.debt(0, 3));
        CHECKS.dueThrow("debt(-1, 0)", INDEX, land, () -> land.debt(-1, 0));
        CHECKS.dueThrow("debt(0, -1)", INDEX, land, () -> land.debt(0, -1));
    }

    private static void promise23Count() {
        DrumTowns land = busyLand();
        int[] want = {3, 150, 146, 35, 4, 39, 4, 0, 0, 2, 6};
        for (int what = 0; what <= 10; what++) {
            due("count(" + what + ")", want[what], land.count(what));
        }
        // 0 1 by 11; then 0 owes nobody.
        due("settle()", 1, land.settle());
        int[] then = {3, 150, 146, 13, 3, 39, 4, 1, 22, 2, 6};
        for (int what = 0; what <= 10; what++) {
            due("count(" + what + ") after settle", then[what], land.count(what));
        }
        land.put(0, 12, 3);
        land.put(2, 13, 4);
        due("count(1) with pins in each drum", 150, land.count(1));
        due("count(2) with pins in each drum", 144, land.count(2));
        CHECKS.dueThrow("count(-1)", ARGUMENT, land, () -> land.count(-1));
        CHECKS.dueThrow("count(11)", ARGUMENT, land, () -> land.count(11));
    }

    private static void promise24Setting() {
        DrumTowns land = new DrumTowns();
        land.set(0, 5);
        land.set(1, 77);
        land.set(2, 888);
        due("setting(0)", 5, land.setting(0));
        due("setting(1)", 77, land.setting(1));
        due("setting(2)", 888, land.setting(2));
        land.undo();
        due("setting(2) after undo", 200, land.setting(2));
        due("setting(1) after undo", 77, land.setting(1));
        CHECKS.dueThrow("setting(-1)", INDEX, land, () -> land.setting(-1));
        CHECKS.dueThrow("setting(3)", INDEX, land, () -> land.setting(3));
    }
}
