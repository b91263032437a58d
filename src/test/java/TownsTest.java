/** Promises 1 to 10: towns, drums and combs. */
public final class TownsTest {
    private static final Class<IndexOutOfBoundsException> INDEX = IndexOutOfBoundsException.class;
    private static final Class<IllegalArgumentException> ARGUMENT = IllegalArgumentException.class;
    private static final Class<IllegalStateException> STATE = IllegalStateException.class;

    private static final Checks CHECKS = new Checks();

    public static void main(String[] args) {
        promise1NewObject();
        promise2AddTown();
        promise3Set();
        promise4Put();
        promise5Pull();
        promise6Move();
        promise7Trade();
        promise8Turn();
        promise9File();
        promise10Play();
        promise10PlayRests();
        promise10PlayDullTeeth();
        CHECKS.end();
    }

    private static void due(String call, long want, long got) {
        CHECKS.due(call, want, got);
    }

    private static void promise1NewObject() {
        DrumTowns land = new DrumTowns();
        for (int what = 0; what <= 10; what++) {
            due("new: count(" + what + ")", 0, land.count(what));
        }
        due("new: setting(0)", 2, land.setting(0));
        due("new: setting(1)", 10, land.setting(1));
        due("new: setting(2)", 200, land.setting(2));
        due("new: firstError()", 0, land.firstError());
        due("new: clearBuffer()", 0, land.clearBuffer());
        land.addTown(7);
        for (int what = 1; what <= 11; what++) {
            due("new town: town(0, " + what + ")", 0, land.town(0, what));
        }
        for (int i = 0; i < 24; i++) {
            due("new town: step(0, " + i + ", 0)", 0, land.step(0, i, 0));
            due("new town: step(0, " + i + ", 1)", 0, land.step(0, i, 1));
        }
        for (int i = 0; i < 12; i++) {
            due("new town: wear(0, " + i + ")", 0, land.wear(0, i));
        }
    }

    private static void promise2AddTown() {
        DrumTowns land = new DrumTowns();
        CHECKS.dueThrow("addTown(-1)", ARGUMENT, land, () -> land.addTown(-1));
        CHECKS.dueThrow("addTown(201)", ARGUMENT, land, () -> land.addTown(201));
        due("addTown(0)", 0, land.addTown(0));
        due("addTown(200)", 1, land.addTown(200));
        due("town(0, 0)", 0, land.town(0, 0));
        due("town(1, 0)", 200, land.town(1, 0));
        land.set(2, 50);
        CHECKS.dueThrow("addTown(51) with 50 in a box", STATE, land, () -> land.addTown(51));
        CHECKS.dueThrow("addTown(201) with 50 in a box", ARGUMENT, land, () -> land.addTown(201));
        due("addTown(50)", 2, land.addTown(50));
        land.set(2, 999);
        CHECKS.dueThrow("addTown(201) with 999 in a box", ARGUMENT, land, () -> land.addTown(201));
        due("addTown(1)", 3, land.addTown(1));
        due("addTown(1)", 4, land.addTown(1));
        due("addTown(1)", 5, land.addTown(1));
        CHECKS.dueThrow("addTown(1) with 6 towns", STATE, land, () -> land.addTown(1));
        CHECKS.dueThrow("addTown(-1) with 6 towns", ARGUMENT, land, () -> land.addTown(-1));
        due("count(0)", 6, land.count(0));
        due("undo()", 5, land.undo());
        due("count(0) after undo", 5, land.count(0));
        due("addTown(3) again", 5, land.addTown(3));
        due("town(5, 0)", 3, land.town(5, 0));
    }

    private static void promise3Set() {
        DrumTowns land = Checks.landOf(1, 100);
        CHECKS.dueThrow("set(-1, 1)", INDEX, land, () -> land.set(-1, 1));
        CHECKS.dueThrow("set(3, 1)", INDEX, land, () -> land.set(3, 1));
        CHECKS.dueThrow("set(3, -1)", INDEX, land, () -> land.set(3, -1));
        int[] least = {0, 1, 1};
        int[] greatest = {24, 100, 999};
        int[] first = {2, 10, 200};
        for (int i = 0; i < 3; i++) {
            int setting = i;
            CHECKS.dueThrow("set below the least", ARGUMENT, land, () -> land.set(setting, least[setting] - 1));
            CHECKS.dueThrow("set above the greatest", ARGUMENT, land,
                    () -> land.set(setting, greatest[setting] + 1));
            int saved = land.count(10);
            due("set to the least", first[i], land.set(i, least[i]));
            due("set to the greatest", least[i], land.set(i, greatest[i]));
            due("set to the same", greatest[i], land.set(i, greatest[i]));
            due("setting", greatest[i], land.setting(i));
            due("saved states", Math.min(6, saved + 3), land.count(10));
        }
        land.set(2, 1);
        due("a full box keeps its pins", 100, land.town(0, 0));
    }

    private static void promise4Put() {
        DrumTowns land = Checks.landOf(2, 2);
        CHECKS.dueThrow("put(-1, 0, 0)", INDEX, land, () -> land.put(-1, 0, 0));
        CHECKS.dueThrow("put(2, 0, 0)", INDEX, land, () -> land.put(2, 0, 0));
        CHECKS.dueThrow("put(0, -1, 0)", INDEX, land, () -> land.put(0, -1, 0));
        CHECKS.dueThrow("put(0, 24, 0)", INDEX, land, () -> land.put(0, 24, 0));
        CHECKS.dueThrow("put(0, 0, -1)", INDEX, land, () -> land.put(0, 0, -1));
        CHECKS.dueThrow("put(0, 0, 12)", INDEX, land, () -> land.put(0, 0, 12));
        due("put(0, 23, 11)", 1, land.put(0, 23, 11));
        CHECKS.dueThrow("put(0, 23, 11) again", STATE, land, () -> land.put(0, 23, 11));
        due("put(0, 0, 0)", 2, land.put(0, 0, 0));
        CHECKS.dueThrow("put(0, 1, 1) with an empty box", STATE, land, () -> land.put(0, 1, 1));
        CHECKS.dueThrow("put(0, 24, 1) with an empty box", INDEX, land, () -> land.put(0, 24, 1));
        due("box", 0, land.town(0, 0));
        due("drum", 2, land.town(0, 1));
        due("step(0, 23, 0)", 1 << 11, land.step(0, 23, 0));
        due("step(0, 0, 0)", 1, land.step(0, 0, 0));
        due("other town's drum", 0, land.town(1, 1));
        due("saved states", 4, land.count(10));
    }

    private static void promise5Pull() {
        DrumTowns land = Checks.landOf(1, 3);
        CHECKS.dueThrow("pull(1, 0, 0)", INDEX, land, () -> land.pull(1, 0, 0));
        CHECKS.dueThrow("pull(0, -1, 0)", INDEX, land, () -> land.pull(0, -1, 0));
        CHECKS.dueThrow("pull(0, 24, 0)", INDEX, land, () -> land.pull(0, 24, 0));
        CHECKS.dueThrow("pull(0, 0, -1)", INDEX, land, () -> land.pull(0, 0, -1));
        CHECKS.dueThrow("pull(0, 0, 12)", INDEX, land, () -> land.pull(0, 0, 12));
        CHECKS.dueThrow("pull(0, 0, 0) of nothing", STATE, land, () -> land.pull(0, 0, 0));
        land.put(0, 0, 0);
        land.put(0, 0, 1);
        land.put(0, 5, 1);
        due("pull(0, 0, 1)", 1, land.pull(0, 0, 1));
        due("step(0, 0, 0)", 1, land.step(0, 0, 0));
        due("step(0, 5, 0)", 2, land.step(0, 5, 0));
        due("drum", 2, land.town(0, 1));
        land.set(2, 2);
        due("pull(0, 0, 0) into the last place", 2, land.pull(0, 0, 0));
        CHECKS.dueThrow("pull(0, 5, 1) with a full box", STATE, land, () -> land.pull(0, 5, 1));
        land.set(2, 1);
        CHECKS.dueThrow("pull(0, 5, 1) with more in the box", STATE, land, () -> land.pull(0, 5, 1));
        land.set(2, 999);
        due("pull(0, 5, 1)", 3, land.pull(0, 5, 1));
        due("saved states", 6, land.count(10));
    }

    private static void promise6Move() {
        DrumTowns land = Checks.landOf(2, 3);
        land.put(0, 4, 3);
        land.put(0, 4, 5);
        land.put(1, 4, 5);
        CHECKS.dueThrow("move(2, 0, 4, 3)", INDEX, land, () -> land.move(2, 0, 4, 3));
        CHECKS.dueThrow("move(0, 2, 4, 3)", INDEX, land, () -> land.move(0, 2, 4, 3));
        CHECKS.dueThrow("move(0, -1, 4, 3)", INDEX, land, () -> land.move(0, -1, 4, 3));
        CHECKS.dueThrow("move(0, 0, 24, 3)", INDEX, land, () -> land.move(0, 0, 24, 3));
        CHECKS.dueThrow("move(0, 0, 4, 12)", INDEX, land, () -> land.move(0, 0, 4, 12));
        CHECKS.dueThrow("move(0, 1, -1, 3)", INDEX, land, () -> land.move(0, 1, -1, 3));
        CHECKS.dueThrow("move(0, 1, 4, -1)", INDEX, land, () -> land.move(0, 1, 4, -1));
        CHECKS.dueThrow("move(2, 2, 4, 3)", INDEX, land, () -> land.move(2, 2, 4, 3));
        CHECKS.dueThrow("move(0, 0, 4, 3)", ARGUMENT, land, () -> land.move(0, 0, 4, 3));
        CHECKS.dueThrow("move(0, 0, 0, 0) of nothing", ARGUMENT, land, () -> land.move(0, 0, 0, 0));
        CHECKS.dueThrow("move(0, 1, 4, 4) of nothing", STATE, land, () -> land.move(0, 1, 4, 4));
        CHECKS.dueThrow("move(0, 1, 4, 5) onto a pin", STATE, land, () -> land.move(0, 1, 4, 5));
        land.set(2, 1);
        due("move(0, 1, 4, 3), with boxes over the limit", 2, land.move(0, 1, 4, 3));
        due("step(0, 4, 0)", 1 << 5, land.step(0, 4, 0));
        due("step(1, 4, 0)", 1 << 5 | 1 << 3, land.step(1, 4, 0));
        due("box of the one", 1, land.town(0, 0));
        due("box of the other", 2, land.town(1, 0));
        land.undo();
        due("step(0, 4, 0) after undo", 1 << 5 | 1 << 3, land.step(0, 4, 0));
        due("step(1, 4, 0) after undo", 1 << 5, land.step(1, 4, 0));
    }

    private static void promise7Trade() {
        DrumTowns land = Checks.landOf(3, 10);
        Checks.learn(land, 0, "ab-");
        Checks.learn(land, 1, "a-(bc)");
        land.put(0, 0, 0);
        land.put(0, 2, 2);
        land.put(1, 1, 1);
        land.play(0);
        CHECKS.dueThrow("trade(3, 0)", INDEX, land, () -> land.trade(3, 0));
        CHECKS.dueThrow("trade(0, 3)", INDEX, land, () -> land.trade(0, 3));
        CHECKS.dueThrow("trade(3, 3)", INDEX, land, () -> land.trade(3, 3));
        CHECKS.dueThrow("trade(1, 1)", ARGUMENT, land, () -> land.trade(1, 1));
        due("right before, town 0", 1, land.town(0, 3));
        due("right before, town 1", 0, land.town(1, 3));
        due("trade(0, 1)", 3, land.trade(0, 1));
        due("step(0, 1, 0)", 2, land.step(0, 1, 0));
        due("drum of 0", 1, land.town(0, 1));
        due("step(1, 0, 0)", 1, land.step(1, 0, 0));
        due("step(1, 2, 0)", 4, land.step(1, 2, 0));
        due("tune of 0 stays", 2, land.town(0, 2));
        due("tune of 1 stays", 3, land.town(1, 2));
        due("box of 0 stays", 8, land.town(0, 0));
        due("box of 1 stays", 9, land.town(1, 0));
        due("playings of 0 stay", 1, land.town(0, 8));
        due("playings of 1 stay", 0, land.town(1, 8));
        due("sounds of 0 stay", 2, land.town(0, 9));
        due("comb of 0 stays", 1, land.wear(0, 2));
        due("comb of 1 stays", 0, land.wear(1, 2));
        due("trade(1, 2)", 0, land.trade(1, 2));
        due("drum of 2", 2, land.town(2, 1));
        land.undo();
        land.undo();
        due("right after undo", 1, land.count(9));
        due("step(1, 1, 0) after undo", 2, land.step(1, 1, 0));
    }

    private static void promise8Turn() {
        DrumTowns land = Checks.landOf(1, 10);
        Checks.learn(land, 0, "-a-(bc)");
        land.put(0, 0, 0);
        land.put(0, 23, 2);
        land.put(0, 2, 1);
        CHECKS.dueThrow("turn(1, 0)", INDEX, land, () -> land.turn(1, 0));
        CHECKS.dueThrow("turn(-1, 24)", INDEX, land, () -> land.turn(-1, 24));
        CHECKS.dueThrow("turn(0, -1)", ARGUMENT, land, () -> land.turn(0, -1));
        CHECKS.dueThrow("turn(0, 24)", ARGUMENT, land, () -> land.turn(0, 24));
        int saved = land.count(10);
        due("turn(0, 0)", 0, land.turn(0, 0));
        due("turn(0, 0) saves", saved + 1, land.count(10));
        due("turn(0, 1)", 2, land.turn(0, 1));
        due("step(0, 0, 0)", 4, land.step(0, 0, 0));
        due("step(0, 1, 0)", 1, land.step(0, 1, 0));
        due("step(0, 3, 0)", 2, land.step(0, 3, 0));
        due("step(0, 2, 0)", 0, land.step(0, 2, 0));
        due("the tune stays", 1, land.step(0, 1, 1));
        due("turn(0, 23)", 0, land.turn(0, 23));
        due("step(0, 23, 0)", 4, land.step(0, 23, 0));
        due("turn(0, 4)", 1, land.turn(0, 4));
        due("step(0, 3, 0)", 4, land.step(0, 3, 0));
        due("drum", 3, land.town(0, 1));
    }

    private static void promise9File() {
        DrumTowns land = Checks.landOf(2, 10);
        land.put(0, 0, 11);
        land.put(0, 0, 3);
        land.play(0);
        land.play(0);
        CHECKS.dueThrow("file(2, 0)", INDEX, land, () -> land.file(2, 0));
        CHECKS.dueThrow("file(-1, 0)", INDEX, land, () -> land.file(-1, 0));
        CHECKS.dueThrow("file(0, 12)", INDEX, land, () -> land.file(0, 12));
        CHECKS.dueThrow("file(0, -1)", INDEX, land, () -> land.file(0, -1));
        due("file(0, 11)", 2, land.file(0, 11));
        due("wear(0, 11)", 0, land.wear(0, 11));
        due("wear(0, 3)", 2, land.wear(0, 3));
        due("file(0, 11) again", 0, land.file(0, 11));
        due("saved states", 6, land.count(10));
        land.undo();
        land.undo();
        due("wear(0, 11) after undo", 2, land.wear(0, 11));
    }

    private static void promise10Play() {
        DrumTowns land = Checks.landOf(2, 10);
        CHECKS.dueThrow("play(2)", INDEX, land, () -> land.play(2));
        CHECKS.dueThrow("play(-1)", INDEX, land, () -> land.play(-1));
        due("play of an empty drum", 0, land.play(0));
        due("playings", 1, land.town(0, 8));
        land.put(0, 0, 0);
        land.put(0, 0, 11);
        land.put(0, 23, 5);
        due("play(0)", 3, land.play(0));
        due("play(0)", 3, land.play(0));
        due("playings", 3, land.town(0, 8));
        due("sounds", 6, land.town(0, 9));
        due("fallen", 0, land.town(0, 10));
        due("wear(0, 5)", 2, land.wear(0, 5));
        due("wear(0, 1)", 0, land.wear(0, 1));
        due("wear(1, 5)", 0, land.wear(1, 5));
        land.undo();
        due("playings after undo", 2, land.town(0, 8));
        due("sounds after undo", 3, land.town(0, 9));
        due("wear(0, 5) after undo", 1, land.wear(0, 5));
    }

    private static void promise10PlayRests() {
        DrumTowns land = Checks.landOf(1, 24);
        for (int i = 0; i < 24; i++) {
            land.put(0, i, 4);
        }
        land.set(1, 100);
        due("rest 2: each other pin sounds", 12, land.play(0));
        due("silent pins stay", 24, land.town(0, 1));
        due("wear", 12, land.wear(0, 4));
        land.set(0, 0);
        due("rest 0", 24, land.play(0));
        land.set(0, 1);
        due("rest 1", 24, land.play(0));
        land.set(0, 3);
        due("rest 3", 8, land.play(0));
        land.set(0, 23);
        due("rest 23", 2, land.play(0));
        land.set(0, 24);
        due("rest 24", 1, land.play(0));
        due("rest 24, in a new playing", 1, land.play(0));
        due("wear", 72, land.wear(0, 4));
        due("sounds", 72, land.town(0, 9));
        land.pull(0, 0, 4);
        due("rest 24, first pin later", 1, land.play(0));
        // A silent pin is no sound: the rest counts from the latest pin that sounded.
        DrumTowns other = Checks.landOf(1, 24);
        other.set(0, 3);
        other.put(0, 0, 0);
        other.put(0, 2, 0);
        other.put(0, 4, 0);
        due("rest counts from the latest sound", 2, other.play(0));
    }

    private static void promise10PlayDullTeeth() {
        DrumTowns land = Checks.landOf(1, 5);
        land.set(0, 2);
        land.set(1, 2);
        land.put(0, 0, 7);
        land.put(0, 1, 7);
        land.put(0, 4, 7);
        land.put(0, 5, 7);
        land.put(0, 9, 8);
        land.set(2, 1);
        due("a tooth that becomes dull in the playing", 3, land.play(0));
        due("the pin behind its last sound fell, though at rest", 1, land.town(0, 10));
        due("step(0, 5, 0)", 0, land.step(0, 5, 0));
        due("step(0, 4, 0)", 1 << 7, land.step(0, 4, 0));
        due("it fell into the box", 1, land.town(0, 0));
        due("dull teeth", 1, land.town(0, 11));
        due("the second playing", 1, land.play(0));
        due("they fall into a full box", 4, land.town(0, 0));
        due("fallen", 4, land.town(0, 10));
        due("wear of a dull tooth stays", 2, land.wear(0, 7));
        due("the tooth 8 is dull only now", 1, land.town(0, 1));
        due("the third playing", 0, land.play(0));
        due("drum", 0, land.town(0, 1));
        due("box", 5, land.town(0, 0));
        land.set(1, 3);
        land.set(2, 200);
        land.put(0, 3, 7);
        due("not dull after set(1, 3)", 1, land.play(0));
        due("wear", 3, land.wear(0, 7));
        land.set(1, 1);
        due("dull teeth by wear 1", 2, land.town(0, 11));
        due("wear over setting 1 is dull", 0, land.play(0));
        due("fallen", 6, land.town(0, 10));
        land.undo();
        due("fallen after undo", 5, land.town(0, 10));
        due("drum after undo", 1, land.town(0, 1));
        due("box after undo", 4, land.town(0, 0));
    }
}
