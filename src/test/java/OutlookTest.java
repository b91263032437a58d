/** Promises 25 to 32: what would be. */
public final class OutlookTest {
    private static final Class<IndexOutOfBoundsException> INDEX = IndexOutOfBoundsException.class;
    private static final Class<IllegalArgumentException> ARGUMENT = IllegalArgumentException.class;

    private static final int NONE = DrumTowns.NONE;

    private static final Checks CHECKS = new Checks();

    public static void main(String[] args) {
        promise25IfPlayed();
        promise26LastsFor();
        promise27BestTurn();
        promise28BestDrum();
        promise29BestTrades();
        promise29BestTradesOfSeveral();
        promise29BestTradesAfterUndo();
        promise30Ring();
        promise30RingOrder();
        promise31TuneShare();
        promise32Digest();
        promise32DigestByHand();
        CHECKS.end();
    }

    private static void due(String call, long want, long got) {
        CHECKS.due(call, want, got);
    }

    private static void dueForecast(DrumTowns land, int... want) {
        for (int what = 0; what <= 4; what++) {
            due("ifPlayed(0, " + what + ")", want[what], land.ifPlayed(0, what));
        }
    }

    private static void promise25IfPlayed() {
        DrumTowns land = Checks.landOf(1, 20);
        dueForecast(land, 0, 0, 0, 0, 0);
        Checks.learn(land, 0, "a-a(abc)");
        for (int i = 0; i < 6; i++) {
            land.put(0, i, 0);
        }
        land.put(0, 3, 1);
        land.put(0, 7, 11);
        // The tooth 0 sounds at 0, 2 and 4; the pins at 0 and 2 are right, and so is that of the tooth 1 at 3.
        dueForecast(land, 5, 3, 0, 3, 0);
        land.set(1, 2);
        // The tooth 0 is dull from its sound at 2 on: its pins at 3, 4 and 5 fall.
        dueForecast(land, 4, 1, 3, 3, 1);
        land.set(1, 1);
        dueForecast(land, 3, 0, 5, 2, 3);
        due("nothing is worn by it", 0, land.wear(0, 0));
        due("nothing falls by it", 8, land.town(0, 1));
        due("play(0)", 3, land.play(0));
        dueForecast(land, 0, 0, 3, 0, 3);
        CHECKS.dueThrow("ifPlayed(1, 0)", INDEX, land, () -> land.ifPlayed(1, 0));
        CHECKS.dueThrow("ifPlayed(-1, 5)", INDEX, land, () -> land.ifPlayed(-1, 5));
        CHECKS.dueThrow("ifPlayed(0, 5)", ARGUMENT, land, () -> land.ifPlayed(0, 5));
        CHECKS.dueThrow("ifPlayed(0, -1)", ARGUMENT, land, () -> land.ifPlayed(0, -1));
    }

    private static void promise26LastsFor() {
        DrumTowns land = Checks.landOf(1, 20);
        due("lastsFor of an empty drum", NONE, land.lastsFor(0));
        land.put(0, 0, 0);
        due("lastsFor without a right pin", NONE, land.lastsFor(0));
        Checks.learn(land, 0, "-----b");
        due("lastsFor with a wrong pin", NONE, land.lastsFor(0));
        land.put(0, 5, 1);
        due("lastsFor of a right pin", 11, land.lastsFor(0));
        land.set(1, 100);
        due("lastsFor with wear 100", 101, land.lastsFor(0));
        land.set(1, 3);
        land.play(0);
        due("lastsFor after a playing", 3, land.lastsFor(0));
        land.put(0, 1, 1);
        due("lastsFor with a wrong pin ahead", 2, land.lastsFor(0));
        land.put(0, 3, 1);
        due("lastsFor with two wrong pins ahead", 1, land.lastsFor(0));
        due("nothing is played by it", 1, land.town(0, 8));
        due("nothing is worn by it", 1, land.wear(0, 1));
        due("nothing falls by it", 4, land.town(0, 1));
        due("play(0)", 3, land.play(0));
        due("the right pin fell", 0, land.town(0, 3));
        due("lastsFor then", NONE, land.lastsFor(0));
        DrumTowns alone = Checks.landOf(1, 1);
        alone.put(0, 0, 0);
        Checks.learn(alone, 0, "a");
        due("lastsFor of a right pin alone", 11, alone.lastsFor(0));
        CHECKS.dueThrow("lastsFor(1)", INDEX, land, () -> land.lastsFor(1));
        CHECKS.dueThrow("lastsFor(-1)", INDEX, land, () -> land.lastsFor(-1));
    }

    private static void promise27BestTurn() {
        DrumTowns land = Checks.landOf(1, 20);
        due("bestTurn(0, 0) of nothing", 0, land.bestTurn(0, 0));
        due("bestTurn(0, 1) of nothing", 0, land.bestTurn(0, 1));
        Checks.learn(land, 0, "(ab)--(bc)");
        land.put(0, 1, 1);
        due("of several the least number", 2, land.bestTurn(0, 0));
        due("bestTurn(0, 1)", 1, land.bestTurn(0, 1));
        land.put(0, 1, 2);
        due("bestTurn(0, 0)", 2, land.bestTurn(0, 0));
        due("bestTurn(0, 1)", 2, land.bestTurn(0, 1));
        land.turn(0, 3);
        due("bestTurn(0, 0) behind the last step", 23, land.bestTurn(0, 0));
        due("bestTurn(0, 1)", 2, land.bestTurn(0, 1));
        due("nothing is turned by it", 6, land.step(0, 4, 0));
        due("turn by it", 2, land.turn(0, land.bestTurn(0, 0)));
        due("bestTurn(0, 0) then", 0, land.bestTurn(0, 0));
        Checks.learn(land, 0, "-(bc)");
        land.turn(0, 21);
        due("a pin at step 0", 6, land.step(0, 0, 0));
        due("bestTurn(0, 0) by one", 1, land.bestTurn(0, 0));
        due("bestTurn(0, 1) by one", 2, land.bestTurn(0, 1));
        CHECKS.dueThrow("bestTurn(1, 0)", INDEX, land, () -> land.bestTurn(1, 0));
        CHECKS.dueThrow("bestTurn(-1, 2)", INDEX, land, () -> land.bestTurn(-1, 2));
        CHECKS.dueThrow("bestTurn(0, 2)", ARGUMENT, land, () -> land.bestTurn(0, 2));
        CHECKS.dueThrow("bestTurn(0, -1)", ARGUMENT, land, () -> land.bestTurn(0, -1));
    }

    private static void promise28BestDrum() {
        DrumTowns land = Checks.landOf(1, 20);
        due("bestDrum(0) of one town", NONE, land.bestDrum(0));
        land.addTown(20);
        land.addTown(20);
        land.addTown(20);
        due("bestDrum(0): the lowest of those with none right", 1, land.bestDrum(0));
        due("bestDrum(1)", 0, land.bestDrum(1));
        Checks.learn(land, 0, "abc");
        land.put(0, 0, 0);
        land.put(0, 1, 1);
        land.put(0, 2, 2);
        land.put(2, 1, 1);
        land.put(3, 0, 0);
        due("bestDrum(0): never its own one", 2, land.bestDrum(0));
        land.put(3, 2, 2);
        due("bestDrum(0)", 3, land.bestDrum(0));
        due("bestDrum(2): by its own tune", 0, land.bestDrum(2));
        CHECKS.dueThrow("bestDrum(4)", INDEX, land, () -> land.bestDrum(4));
        CHECKS.dueThrow("bestDrum(-1)", INDEX, land, () -> land.bestDrum(-1));
    }

    private static void dueTrades(DrumTowns land, int... want) {
        due("bestTrades(0)", want[0], land.bestTrades(0));
        for (int i = 0; i < 6; i++) {
            due("bestTrades(" + (10 + i) + ")", i + 1 < want.length ? want[i + 1] : NONE, land.bestTrades(10 + i));
        }
    }

    private static void promise29BestTrades() {
        DrumTowns land = new DrumTowns();
        dueTrades(land, 0);
        int[] wrong = {-1, 1, 2, 9, 16, Integer.MIN_VALUE, Integer.MAX_VALUE};
        for (int what : wrong) {
            CHECKS.dueThrow("bestTrades(" + what + ")", ARGUMENT, land, () -> land.bestTrades(what));
        }
        land.addTown(20);
        dueTrades(land, 0, 0);
        land.addTown(20);
        land.addTown(20);
        dueTrades(land, 0, 0, 1, 2);
        Checks.learn(land, 0, "abc");
        Checks.learn(land, 1, "ab");
        land.put(2, 0, 0);
        land.put(2, 1, 1);
        land.put(0, 2, 2);
        // The drum 2 brings 2 to each of the towns 0 and 1, the drum 0 brings 1 to the town 0 alone.
        dueTrades(land, 3, 0, 2, 1);
        land.trade(1, 2);
        dueTrades(land, 3, 0, 1, 2);
        land.trade(0, 1);
        dueTrades(land, 3, 1, 0, 2);
        land.undo();
        land.undo();
        dueTrades(land, 3, 0, 2, 1);
        land.trade(1, 2);
        land.trade(0, 1);
        due("nothing is traded by it", 3, land.step(0, 0, 0) | land.step(0, 1, 0));
    }

    private static void promise29BestTradesOfSeveral() {
        DrumTowns land = Checks.landOf(6, 20);
        for (int i = 0; i < 6; i++) {
            Checks.learn(land, i, "a");
        }
        land.put(4, 0, 0);
        dueTrades(land, 1, 0, 1, 2, 3, 4, 5);
        Checks.learn(land, 4, "-");
        dueTrades(land, 1, 0, 1, 2, 3, 5, 4);
        Checks.learn(land, 5, "b");
        land.put(0, 0, 1);
        // The drum 0 is for the town 5 now.
        dueTrades(land, 2, 1, 2, 3, 4, 5, 0);
        for (int i = 0; i < 6; i++) {
            Checks.learn(land, i, "" + (char) ('l' - i));
            land.put(i, 0, 11 - (i + 2) % 6);
        }
        // The drum i has the pin of the town i + 2.
        dueTrades(land, 6, 4, 5, 0, 1, 2, 3);
    }

    /** What was found for more towns must not be left for fewer ones. */
    private static void promise29BestTradesAfterUndo() {
        DrumTowns land = Checks.landOf(1, 20);
        Checks.learn(land, 0, "a");
        land.put(0, 0, 0);
        land.addTown(20);
        land.move(0, 1, 0, 0);
        Checks.learn(land, 1, "a");
        dueTrades(land, 1, 0, 1);
        land.undo();
        land.undo();
        land.undo();
        dueTrades(land, 1, 0);
    }

    private static void owe(DrumTowns land, int from, int to, int pins) {
        land.lend(to, from, pins);
    }

    private static void dueRing(DrumTowns land, int... want) {
        due("ring(0)", want[0], land.ring(0));
        due("ring(1)", want[1], land.ring(1));
        for (int i = 0; i < 6; i++) {
            due("ring(" + (10 + i) + ")", i + 2 < want.length ? want[i + 2] : NONE, land.ring(10 + i));
        }
    }

    private static void promise30Ring() {
        DrumTowns land = new DrumTowns();
        dueRing(land, NONE, NONE);
        int[] wrong = {-1, 2, 9, 16, Integer.MIN_VALUE, Integer.MAX_VALUE};
        for (int what : wrong) {
            CHECKS.dueThrow("ring(" + what + ")", ARGUMENT, land, () -> land.ring(what));
        }
        for (int i = 0; i < 6; i++) {
            land.addTown(50);
        }
        dueRing(land, NONE, NONE);
        for (int i = 0; i < 5; i++) {
            owe(land, i, i + 1, 9 - i);
        }
        dueRing(land, NONE, NONE);
        owe(land, 5, 0, 7);
        dueRing(land, 6, 5, 0, 1, 2, 3, 4, 5);
        owe(land, 5, 1, 6);
        dueRing(land, 5, 5, 1, 2, 3, 4, 5);
        owe(land, 3, 0, 8);
        dueRing(land, 4, 7, 0, 1, 2, 3);
        owe(land, 4, 2, 1);
        dueRing(land, 3, 1, 2, 3, 4);
        owe(land, 5, 4, 20);
        dueRing(land, 2, 5, 4, 5);
        owe(land, 4, 3, 4);
        dueRing(land, 2, 4, 3, 4);
        land.settle();
        dueRing(land, NONE, NONE);
        land.undo();
        dueRing(land, 2, 4, 3, 4);
    }

    private static void promise30RingOrder() {
        DrumTowns land = Checks.landOf(6, 50);
        owe(land, 3, 5, 1);
        owe(land, 5, 2, 1);
        owe(land, 2, 3, 2);
        dueRing(land, 3, 1, 2, 3, 5);
        owe(land, 0, 5, 3);
        owe(land, 2, 0, 4);
        dueRing(land, 3, 1, 0, 5, 2);
        owe(land, 5, 4, 2);
        owe(land, 4, 0, 2);
        // 0 5 2 still comes ahead of 0 5 4.
        dueRing(land, 3, 1, 0, 5, 2);
        owe(land, 5, 1, 3);
        owe(land, 1, 0, 3);
        dueRing(land, 3, 3, 0, 5, 1);
        owe(land, 0, 4, 5);
        dueRing(land, 2, 2, 0, 4);
        land.repay(4, 0, 2);
        owe(land, 4, 1, 6);
        dueRing(land, 3, 3, 0, 4, 1);
    }

    private static void dueShare(DrumTowns land, double want) {
        due("bits of tuneShare()", Double.doubleToLongBits(want), Double.doubleToLongBits(land.tuneShare()));
    }

    private static void promise31TuneShare() {
        DrumTowns land = new DrumTowns();
        dueShare(land, 0.0);
        land.addTown(20);
        land.addTown(20);
        land.put(0, 0, 0);
        dueShare(land, 0.0);
        Checks.learn(land, 1, "abc");
        dueShare(land, 0.0);
        Checks.learn(land, 0, "abcd");
        dueShare(land, 1.0 / 7.0);
        land.put(1, 1, 1);
        land.put(1, 2, 2);
        dueShare(land, 3.0 / 7.0);
        land.put(1, 0, 0);
        land.put(1, 0, 1);
        land.put(0, 1, 1);
        land.put(0, 2, 2);
        land.put(0, 3, 3);
        dueShare(land, 1.0);
    }

    private static final String[] TUNES = {"abc", "(ab)-(cl)", "-", "a-b-c-d", "(abcdefghijkl)", "lll"};

    /** A land after so many changes: a buffer, 6 towns, 6 tunes with pins and debts, playings, settling, undo. */
    private static DrumTowns changed(int changes) {
        DrumTowns land = new DrumTowns();
        for (int i = 0; i < changes; i++) {
            if (i == 0) {
                Checks.append(land, "(ab");
            } else if (i <= 6) {
                land.addTown(29 + i);
            } else if (i <= 12) {
                fill(land, i - 7);
            } else {
                wear(land, i - 13);
            }
        }
        return land;
    }

    private static void fill(DrumTowns land, int town) {
        Checks.learn(land, town, TUNES[town]);
        for (int j = 0; j < 6; j++) {
            land.put(town, (town * 5 + j) % 24, (town + j * j) % 12);
        }
        owe(land, town, (town + 1) % 6, town + 1);
    }

    private static void wear(DrumTowns land, int which) {
        switch (which) {
            case 0: land.set(1, 1); break;
            case 1: case 2: case 3: land.play(2 * which - 2); break;
            case 4: land.settle(); break;
            default: land.undo();
        }
    }

    private static void promise32Digest() {
        for (int changes = 0; changes <= 20; changes++) {
            int upTo = changes;
            String buffer = changes > 0 && changes <= 7 ? "(ab" : "";
            long want = DigestOfAnswers.of(() -> changed(upTo), buffer);
            // A land that was asked nothing else: the digest must not live on what other calls have found.
            DrumTowns land = changed(changes);
            due("digest() after " + changes + " changes", want, land.digest());
            due("digest() again, after " + changes + " changes", want, land.digest());
        }
    }

    private static void promise32DigestByHand() {
        // A new object: 11 counts, 3 settings, bestTrades 0 and 6 times NONE, 8 times NONE, 0, 0.
        long hash = 2357;
        int[] values = {0, 0, 0, 0, 0, 0, 0, 0, 0, 0, 0, 2, 10, 200, 0, -1, -1, -1, -1, -1, -1,
            -1, -1, -1, -1, -1, -1, -1, -1, 0, 0};
        for (int value : values) {
            hash = 31 * hash + value;
        }
        due("digest() of a new object by hand", hash, new DrumTowns().digest());
    }
}
