import java.util.function.Supplier;

/** The boundary cases that promises 25 to 32 name: what would be. */
public final class OutlookEdgesTest {
    private static final Class<IllegalArgumentException> ARGUMENT = IllegalArgumentException.class;
    private static final int NONE = DrumTowns.NONE;

    private static final Checks CHECKS = new Checks();
    private static final Twins TWINS = new Twins(CHECKS);

    public static void main(String[] args) {
        nothingIsChanged();
        promise25OfAnEmptyDrum();
        promise25SoundStayAndFall();
        promise25ThoseThatAreRight();
        promise25TeethThatWouldBeDull();
        promise25NoSuchTown();
        promise25WhatIsNot0To4();
        promise26From1On();
        promise26TheLongestOnes();
        promise26NoneUpTo200();
        promise26NoSuchTown();
        promise27OfSeveralTheLeastNumber();
        promise27From0To23();
        promise27NoSuchTown();
        promise27WhatIsNot0Or1();
        promise28NoOtherTown();
        promise28OfSeveralTheLowestNumber();
        promise28AsItIs();
        promise28NoSuchTown();
        promise29WithoutTowns();
        promise29NoSuchTown();
        promise29EachDrumByOneTown();
        promise29OfSeveralTheLowestTown();
        promise29WhatIsNot0Or10To15();
        promise30NoRing();
        promise30NotSoManyTowns();
        promise30WhatIsNot0Or1Or10To15();
        promise31IfThatIs0();
        promise31CountDividedByWhatAllNeed();
        promise32StartsAt2357();
        promise32EachSizeOfLand();
        promise32TheBitsOfTuneShare();
        promise32TheBuffer();
        CHECKS.end();
    }

    private static void due(String call, long want, long got) {
        CHECKS.due(call, want, got);
    }

    /** "what would be; nothing is changed" */
    private static void nothingIsChanged() {
        for (int i = 0; i <= 5; i++) {
            int number = i;
            TWINS.reads("bestTrades", OutlookEdgesTest::worn, x -> x.bestTrades(10 + number));
            TWINS.reads("ring", OutlookEdgesTest::worn, x -> x.ring(10 + number));
            TWINS.reads("ifPlayed", OutlookEdgesTest::worn, x -> x.ifPlayed(0, Math.min(4, number)));
        }
        for (int i = 0; i <= 2; i++) {
            int town = i;
            TWINS.reads("lastsFor", OutlookEdgesTest::worn, x -> x.lastsFor(town));
            TWINS.reads("bestDrum", OutlookEdgesTest::worn, x -> x.bestDrum(town));
            TWINS.reads("bestTurn", OutlookEdgesTest::worn, x -> x.bestTurn(town, 0));
            TWINS.reads("bestTurn", OutlookEdgesTest::worn, x -> x.bestTurn(town, 1));
        }
        TWINS.reads("bestTrades(0)", OutlookEdgesTest::worn, x -> x.bestTrades(0));
        TWINS.reads("ring(0)", OutlookEdgesTest::worn, x -> x.ring(0));
        TWINS.reads("ring(1)", OutlookEdgesTest::worn, x -> x.ring(1));
        TWINS.reads("tuneShare", OutlookEdgesTest::worn, x -> x.tuneShare());
        TWINS.reads("digest", OutlookEdgesTest::worn, x -> x.digest());
    }

    /** A land of which a playing would do all that it can: sounds, rests, dull teeth, pins that fall. */
    private static DrumTowns worn() {
        DrumTowns land = Lands.busy();
        land.set(0, 6);
        land.set(1, 2);
        return land;
    }

    private static void dueForecast(String when, DrumTowns land, int... want) {
        for (int what = 0; what <= 4; what++) {
            due(when + ": ifPlayed(0, " + what + ")", want[what], land.ifPlayed(0, what));
        }
    }

    /** "Tells what playing a drum would do.", of a drum without pins. */
    private static void promise25OfAnEmptyDrum() {
        DrumTowns land = Lands.one(5, 200);
        dueForecast("empty", land, 0, 0, 0, 0, 0);
        Checks.learn(land, 0, "abc");
        dueForecast("empty, with a tune", land, 0, 0, 0, 0, 0);
    }

    /** "0: how many pins would sound; 1: how many would be silent and stay; 2: how many would fall out" */
    private static void promise25SoundStayAndFall() {
        DrumTowns land = Lands.put(Lands.one(9, 200), 0, 0, 0, 1, 0, 2, 0, 3, 0, 23, 11);
        dueForecast("with rests", land, 3, 2, 0, 0, 0);
        land.set(1, 2);
        dueForecast("dull after its second sound", land, 3, 1, 1, 0, 1);
        land.set(1, 1);
        dueForecast("dull after its first sound", land, 2, 0, 3, 0, 2);
        due("play", 2, land.play(0));
        dueForecast("all dull", land, 0, 0, 2, 0, 2);
        due("play", 0, land.play(0));
        dueForecast("all fallen", land, 0, 0, 0, 0, 2);
    }

    /** "3: how many of those that would sound are right" */
    private static void promise25ThoseThatAreRight() {
        DrumTowns land = Lands.put(Lands.one(9, 200), 0, 0, 0, 1, 0, 2, 0, 4, 0);
        Checks.learn(land, 0, "aaab");
        dueForecast("a right pin at rest, a wrong one that sounds", land, 3, 1, 0, 2, 0);
        land.set(1, 2);
        dueForecast("a wrong pin that falls", land, 2, 1, 1, 2, 1);
        land.set(1, 1);
        dueForecast("right pins that fall", land, 1, 0, 3, 1, 1);
        Checks.learn(land, 0, "-a");
        dueForecast("none that sounds is right", land, 1, 0, 3, 0, 1);
    }

    /** "4: how many teeth would be dull then": those that are dull now, and those that become it, with pins or not */
    private static void promise25TeethThatWouldBeDull() {
        DrumTowns land = Lands.put(Lands.one(15, 200), 0, 0, 0, 0, 1, 0, 2);
        land.set(1, 2);
        land.play(0);
        land.pull(0, 0, 0);
        dueForecast("two that become dull, one at wear 1 without a pin", land, 2, 0, 0, 0, 2);
        land.set(1, 1);
        dueForecast("three that are dull, one of them without a pin", land, 0, 0, 2, 0, 3);
        land.set(1, 3);
        dueForecast("none", land, 2, 0, 0, 0, 0);
        DrumTowns all = Lands.one(12, 200);
        for (int i = 0; i < 12; i++) {
            Lands.put(all, 0, 23, i);
        }
        all.set(1, 1);
        dueForecast("all teeth", all, 12, 0, 0, 0, 12);
    }

    /** "IndexOutOfBoundsException if there is no such town" */
    private static void promise25NoSuchTown() {
        for (int what = 0; what <= 4; what++) {
            int asked = what;
            TWINS.noSuchTown("ifPlayed", (land, town) -> land.ifPlayed(town, asked));
        }
    }

    /** "IllegalArgumentException if what is not 0 to 4" */
    private static void promise25WhatIsNot0To4() {
        TWINS.outOfRange("ifPlayed: what is 0 to 4", ARGUMENT, 0, 4, (land, what) -> land.ifPlayed(0, what));
    }

    /** "Returns the least number of playings, .. from 1 on, in the last one of which a right pin would fall out" */
    private static void promise26From1On() {
        DrumTowns land = Lands.put(Lands.one(9, 200), 0, 0, 0, 5, 1);
        Checks.learn(land, 0, "-----b");
        land.set(1, 2);
        due("its tooth is dull by then", 3, land.lastsFor(0));
        land.play(0);
        due("after one playing", 2, land.lastsFor(0));
        land.play(0);
        due("after two playings", 1, land.lastsFor(0));
        due("it would fall out now", 2, land.ifPlayed(0, 2));
        land.file(0, 0);
        due("it is another tooth that was filed", 1, land.lastsFor(0));
        land.file(0, 1);
        due("its tooth was filed", 3, land.lastsFor(0));
        Lands.put(land, 0, 0, 1, 2, 1);
        due("it becomes dull in the first playing", 1, land.lastsFor(0));
        land.set(0, 24);
        due("a right pin that is silent and stays does not fall, until its tooth is dull by then", 2, land.lastsFor(0));
        due("nothing was played by it", 2, land.town(0, 8));
    }

    /** The same, for the longest that a right pin can stay. */
    private static void promise26TheLongestOnes() {
        DrumTowns land = Lands.put(Lands.one(30, 200), 0, 23, 11);
        Checks.learn(land, 0, "-".repeat(23) + "l");
        due("11 playings at first", 11, land.lastsFor(0));
        land.set(1, 100);
        due("101 playings", 101, land.lastsFor(0));
        land.set(0, 0);
        due("101 playings without rest", 101, land.lastsFor(0));
        for (int i = 0; i < 23; i++) {
            Lands.put(land, 0, i, 11);
        }
        // 24 sounds in each of 4 playings, 4 in the fifth one: then they fall, the right one at last.
        due("5 playings of a tooth at each step", 5, land.lastsFor(0));
        land.set(0, 24);
        due("100 playings, in the last one of which its tooth is dull ahead of it", 100, land.lastsFor(0));
        DrumTowns wrong = Lands.put(Lands.one(30, 200), 0, 3, 3, 4, 4, 6, 4);
        Checks.learn(wrong, 0, "---d");
        wrong.set(1, 20);
        due("wrong pins that fall ahead of it do not count", 21, wrong.lastsFor(0));
    }

    /** "NONE if there is none up to 200" */
    private static void promise26NoneUpTo200() {
        DrumTowns land = Lands.one(9, 200);
        due("an empty drum, no tune", NONE, land.lastsFor(0));
        Checks.learn(land, 0, "ab");
        due("an empty drum", NONE, land.lastsFor(0));
        Lands.put(land, 0, 0, 1, 1, 0);
        due("wrong pins alone", NONE, land.lastsFor(0));
        land.set(1, 1);
        due("wrong pins alone, that fall soon", NONE, land.lastsFor(0));
        land.set(1, 100);
        due("wrong pins alone, that fall late", NONE, land.lastsFor(0));
        DrumTowns fallen = Lands.put(Lands.one(9, 200), 0, 0, 0);
        Checks.learn(fallen, 0, "a");
        fallen.set(1, 1);
        due("a right pin", 2, fallen.lastsFor(0));
        fallen.play(0);
        due("a right pin that falls now", 1, fallen.lastsFor(0));
        fallen.play(0);
        due("a right pin that fell", NONE, fallen.lastsFor(0));
    }

    /** "IndexOutOfBoundsException if there is no such town" */
    private static void promise26NoSuchTown() {
        TWINS.noSuchTown("lastsFor", (land, town) -> land.lastsFor(town));
    }

    private static void dueTurn(String when, DrumTowns land, int by, int right) {
        due(when + ": bestTurn(0, 0)", by, land.bestTurn(0, 0));
        due(when + ": bestTurn(0, 1)", right, land.bestTurn(0, 1));
        due(when + ": turn by it", right, land.turn(0, by));
        land.undo();
    }

    /** "so that the most pins were right, of several the least number" */
    private static void promise27OfSeveralTheLeastNumber() {
        DrumTowns land = Lands.one(9, 200);
        dueTurn("an empty drum, no tune", land, 0, 0);
        Checks.learn(land, 0, "aa-a");
        dueTurn("an empty drum", land, 0, 0);
        Lands.put(land, 0, 0, 1);
        dueTurn("a pin that is never right", land, 0, 0);
        Lands.put(land, 0, 0, 0);
        dueTurn("by 0, 1 or 3", land, 0, 1);
        land.turn(0, 1);
        dueTurn("by 0, 2 or 23", land, 0, 1);
        land.turn(0, 1);
        dueTurn("by 1, 22 or 23", land, 1, 1);
        land.turn(0, 2);
        dueTurn("by 20, 21 or 23", land, 20, 1);
        Lands.put(land, 0, 5, 0);
        dueTurn("two right ones by 20 rather than one by 23", land, 20, 2);
        DrumTowns each = Lands.one(24, 200);
        Checks.learn(each, 0, "a".repeat(24));
        Lands.put(each, 0, 7, 0);
        dueTurn("by each number", each, 0, 1);
    }

    /** "by how many steps, 0 to 23, it would be turned" */
    private static void promise27From0To23() {
        for (int step = 0; step < 24; step++) {
            DrumTowns land = Lands.put(Lands.one(2, 200), 0, step, 4, (step + 1) % 24, 5);
            Checks.learn(land, 0, "ef");
            dueTurn("pins from the step " + step + " on", land, (24 - step) % 24, 2);
        }
        for (int step = 0; step < 24; step++) {
            DrumTowns land = Lands.put(Lands.one(1, 200), 0, 0, 4);
            Checks.learn(land, 0, "-".repeat(step) + "e");
            dueTurn("a tune with the step " + step, land, step, 1);
        }
    }

    /** "IndexOutOfBoundsException if there is no such town" */
    private static void promise27NoSuchTown() {
        TWINS.noSuchTown("bestTurn", (land, town) -> land.bestTurn(town, 0));
        TWINS.noSuchTown("bestTurn", (land, town) -> land.bestTurn(town, 1));
    }

    /** "IllegalArgumentException if what is not 0 or 1" */
    private static void promise27WhatIsNot0Or1() {
        TWINS.outOfRange("bestTurn: what is 0 or 1", ARGUMENT, 0, 1, (land, what) -> land.bestTurn(0, what));
    }

    /** "NONE if there is no other town" */
    private static void promise28NoOtherTown() {
        DrumTowns land = Lands.put(Lands.one(5, 200), 0, 0, 0);
        Checks.learn(land, 0, "a");
        due("one town", NONE, land.bestDrum(0));
        land.addTown(5);
        due("another town", 1, land.bestDrum(0));
        due("the other town's", 0, land.bestDrum(1));
        land.undo();
        due("the other town is undone", NONE, land.bestDrum(0));
    }

    /** "Returns the other town with whose drum .. the most pins would be right .., of several the lowest number" */
    private static void promise28OfSeveralTheLowestNumber() {
        DrumTowns land = Lands.six();
        due("none of them fits, for 0", 1, land.bestDrum(0));
        due("none of them fits, for 5", 0, land.bestDrum(5));
        Checks.learn(land, 3, "ab");
        Lands.put(land, 3, 0, 0, 1, 1);
        due("its own one is no other one", 0, land.bestDrum(3));
        Lands.put(land, 5, 0, 0);
        due("the last one", 5, land.bestDrum(3));
        Lands.put(land, 4, 1, 1);
        due("the lower one of two", 4, land.bestDrum(3));
        Lands.put(land, 1, 1, 1);
        due("the lowest one of three", 1, land.bestDrum(3));
        Lands.put(land, 5, 1, 1);
        due("the one with more", 5, land.bestDrum(3));
        Lands.put(land, 4, 5, 5, 6, 6, 7, 7);
        due("wrong pins do not count", 5, land.bestDrum(3));
        due("their own tunes do not count", 0, land.bestDrum(5));
    }

    /** "with whose drum, as it is": it is not turned for that. */
    private static void promise28AsItIs() {
        DrumTowns land = Lands.six();
        Checks.learn(land, 0, "ab");
        Lands.put(land, 1, 1, 0, 2, 1);
        Lands.put(land, 2, 0, 0);
        due("a drum that would fit better when turned", 2, land.bestDrum(0));
    }

    /** "IndexOutOfBoundsException if there is no such town" */
    private static void promise28NoSuchTown() {
        TWINS.noSuchTown("bestDrum", (land, town) -> land.bestDrum(town));
    }

    private static void dueTrades(String when, DrumTowns land, int most, int... drums) {
        due(when + ": bestTrades(0)", most, land.bestTrades(0));
        for (int i = 0; i < 6; i++) {
            int want = i < drums.length ? drums[i] : NONE;
            due(when + ": bestTrades(" + (10 + i) + ")", want, land.bestTrades(10 + i));
        }
    }

    /** "0 without towns for 0" */
    private static void promise29WithoutTowns() {
        dueTrades("without towns", new DrumTowns(), 0);
        DrumTowns land = Lands.put(Lands.one(5, 200), 0, 0, 0);
        for (int i = 0; i < 3; i++) {
            land.undo();
        }
        dueTrades("without towns after undo", land, 0);
    }

    /** "NONE for 10 to 15 if there is no such town" */
    private static void promise29NoSuchTown() {
        int[] own = {0, 1, 2, 3, 4, 5};
        for (int towns = 1; towns <= 6; towns++) {
            int[] drums = new int[towns];
            System.arraycopy(own, 0, drums, 0, towns);
            dueTrades(towns + " towns", Checks.landOf(towns, 5), 0, drums);
        }
    }

    /** "the greatest number of right pins, .. if each town had one of the drums .., each drum being had by one town" */
    private static void promise29EachDrumByOneTown() {
        DrumTowns land = Checks.landOf(3, 20);
        Checks.learn(land, 0, "abc");
        Checks.learn(land, 1, "abcd");
        Checks.learn(land, 2, "--c");
        Lands.put(land, 1, 0, 0, 1, 1, 2, 2);
        dueTrades("a drum that fits all is had once", land, 3, 0, 1, 2);
        Lands.put(land, 0, 0, 0);
        // With 0 its own one: 1 + 3; with the drums 0 and 1 the other way: 3 + 1.
        dueTrades("as many by both ways", land, 4, 0, 1, 2);
        Lands.put(land, 1, 3, 3);
        dueTrades("what is best for 0 alone is not best for all", land, 5, 0, 1, 2);
        land.trade(1, 2);
        dueTrades("after a trade", land, 5, 0, 2, 1);
        land.trade(0, 1);
        dueTrades("after another trade", land, 5, 1, 2, 0);
        due("right pins as it is", 2, land.count(9));
    }

    /** "the one by which the town 0 has that of the lowest town, of several the town 1, and so on" */
    private static void promise29OfSeveralTheLowestTown() {
        DrumTowns land = Lands.six();
        Checks.learn(land, 5, "a");
        Lands.put(land, 0, 0, 0);
        dueTrades("the last town needs the first drum", land, 1, 1, 2, 3, 4, 5, 0);
        Checks.learn(land, 0, "a");
        dueTrades("the first town may have it, too", land, 1, 0, 1, 2, 3, 4, 5);
        Lands.put(land, 3, 0, 0);
        dueTrades("both can have one", land, 2, 0, 1, 2, 4, 5, 3);
        Checks.learn(land, 1, "a");
        dueTrades("three for two", land, 2, 0, 1, 2, 4, 5, 3);
        Checks.learn(land, 5, "b");
        dueTrades("two for two", land, 2, 0, 3, 1, 2, 4, 5);
        Checks.learn(land, 0, "-");
        Checks.learn(land, 2, "a");
        dueTrades("the first town goes without", land, 2, 1, 0, 3, 2, 4, 5);
    }

    /** "IllegalArgumentException if what is not 0 or 10 to 15" */
    private static void promise29WhatIsNot0Or10To15() {
        for (int what = -2; what <= 20; what++) {
            int asked = what;
            if (what != 0 && (what < 10 || what > 15)) {
                TWINS.refused("bestTrades(" + what + ")", ARGUMENT, Lands::busy, x -> x.bestTrades(asked));
                TWINS.refused("bestTrades(" + what + ")", ARGUMENT, Lands::none, x -> x.bestTrades(asked));
            }
        }
        TWINS.outOfRange("bestTrades: what is 10 to 15", ARGUMENT, 10, 15, (land, what) -> land.bestTrades(what));
    }

    private static void dueRing(String when, DrumTowns land, int size, int least, int... towns) {
        due(when + ": ring(0)", size, land.ring(0));
        due(when + ": ring(1)", least, land.ring(1));
        for (int i = 0; i < 6; i++) {
            int want = i < towns.length ? towns[i] : NONE;
            due(when + ": ring(" + (10 + i) + ")", want, land.ring(10 + i));
        }
    }

    /** "NONE if there is no ring" */
    private static void promise30NoRing() {
        dueRing("without towns", new DrumTowns(), NONE, NONE);
        dueRing("one town", Lands.one(5, 200), NONE, NONE);
        dueRing("without debts", Lands.six(), NONE, NONE);
        DrumTowns land = Lands.two(5, 5, 200);
        land.lend(0, 1, 2);
        dueRing("a debt one way", land, NONE, NONE);
        land.lend(1, 0, 3);
        dueRing("a debt each way", land, 2, 2, 0, 1);
        land.repay(1, 0, 2);
        dueRing("a debt that is repaid", land, NONE, NONE);
        land.undo();
        dueRing("after undo", land, 2, 2, 0, 1);
        land.settle();
        dueRing("after settle", land, NONE, NONE);
    }

    /** "or it has not so many towns" */
    private static void promise30NotSoManyTowns() {
        for (int size = 2; size <= 6; size++) {
            DrumTowns land = Lands.six();
            int[] towns = new int[size];
            for (int i = 0; i < size; i++) {
                towns[i] = 6 - size + i;
                Lands.owe(land, towns[i], 6 - size + (i + 1) % size, i == size - 1 ? 1 : 4);
            }
            dueRing("a ring of " + size, land, size, 1, towns);
        }
    }

    /** "IllegalArgumentException if what is not 0, 1, or 10 to 15" */
    private static void promise30WhatIsNot0Or1Or10To15() {
        for (int what = -2; what <= 20; what++) {
            int asked = what;
            if (what != 0 && what != 1 && (what < 10 || what > 15)) {
                TWINS.refused("ring(" + what + ")", ARGUMENT, Lands::busy, x -> x.ring(asked));
                TWINS.refused("ring(" + what + ")", ARGUMENT, Lands::none, x -> x.ring(asked));
            }
        }
        TWINS.outOfRange("ring: what is 10 to 15", ARGUMENT, 10, 15, (land, what) -> land.ring(what));
    }

    private static void dueShare(String when, double want, DrumTowns land) {
        due(when + ": bits of tuneShare()", Double.doubleToLongBits(want), Double.doubleToLongBits(land.tuneShare()));
    }

    /** "0.0 if that is 0" */
    private static void promise31IfThatIs0() {
        dueShare("without towns", 0.0, new DrumTowns());
        dueShare("without tunes", 0.0, Lands.six());
        DrumTowns land = Lands.put(Lands.one(5, 200), 0, 0, 0);
        Checks.learn(land, 0, "-");
        dueShare("a tune without teeth", 0.0, land);
        Checks.learn(land, 0, "b");
        dueShare("nothing of a tune", 0.0, land);
    }

    /** "count(9), as a double, divided by what all tunes together need" */
    private static void promise31CountDividedByWhatAllNeed() {
        DrumTowns land = Lands.six();
        Checks.learn(land, 0, "abc");
        Checks.learn(land, 5, "abcd");
        Lands.put(land, 0, 0, 0, 5, 5);
        dueShare("one of seven", 1.0 / 7.0, land);
        Lands.put(land, 5, 0, 0, 1, 1);
        dueShare("three of seven", 3.0 / 7.0, land);
        Lands.put(land, 5, 2, 2, 3, 3);
        Lands.put(land, 0, 1, 1, 2, 2);
        dueShare("all", 1.0, land);
        land.trade(0, 5);
        dueShare("by the tune of the town that has the drum", 6.0 / 7.0, land);
    }

    /** "The hash starts at 2357." */
    private static void promise32StartsAt2357() {
        int[] values = {0, 0, 0, 0, 0, 0, 0, 0, 0, 0, 0, 2, 10, 200, 0, -1, -1, -1, -1, -1, -1,
            -1, -1, -1, -1, -1, -1, -1, -1, 0, 0};
        long hash = 2357;
        for (int value : values) {
            hash = 31 * hash + value;
        }
        due("digest() of a new object", hash, new DrumTowns().digest());
    }

    private static void dueDigest(String when, Supplier<DrumTowns> made, String buffer) {
        due("digest() " + when, DigestOfAnswers.of(made, buffer), made.get().digest());
    }

    private static DrumTowns undone(DrumTowns land, int undos) {
        for (int i = 0; i < undos; i++) {
            land.undo();
        }
        return land;
    }

    /** "for each town its properties .., its debt to each town": from no town to 6. */
    private static void promise32EachSizeOfLand() {
        for (int i = 0; i <= 6; i++) {
            int towns = i;
            dueDigest("of " + i + " towns", () -> Checks.landOf(towns, 5), "");
            dueDigest("after " + i + " undos", () -> undone(Lands.busy(), towns), "a(b");
        }
        dueDigest("of a worn land", OutlookEdgesTest::worn, "a(b");
    }

    /** A town whose tune has the tooth 5 at so many steps, and so many of them have a pin. */
    private static DrumTowns sharing(int right, int needed) {
        DrumTowns land = Checks.landOf(1, 24);
        Checks.learn(land, 0, "f".repeat(needed));
        for (int i = 0; i < right; i++) {
            land.put(0, i, 5);
        }
        return land;
    }

    /** Six towns with tunes that are as long as a text can be, and one right pin. */
    private static DrumTowns sharingLeast() {
        DrumTowns land = Lands.put(Checks.landOf(6, 5), 0, 0, 0);
        for (int town = 0; town < 6; town++) {
            Checks.learn(land, town, "(abcdefghijkl)".repeat(4) + "(kl)");
        }
        return land;
    }

    /** "the bits of tuneShare (as Double.doubleToLongBits)" */
    private static void promise32TheBitsOfTuneShare() {
        for (int i = 1; i <= 24; i++) {
            for (int j = 0; j <= i; j++) {
                int needed = i;
                int right = j;
                dueDigest("with a share of " + right + " of " + needed, () -> sharing(right, needed), "");
            }
        }
        dueDigest("with a share of 1 of 300", OutlookEdgesTest::sharingLeast, "");
    }

    /** "the length of the buffer and each of its character codes" */
    private static void promise32TheBuffer() {
        StringBuilder codes = new StringBuilder();
        for (int i = 0; i < 60; i++) {
            codes.append((char) (33 + i * 37 % 94));
            String buffer = codes.toString();
            dueDigest("with a buffer of " + (i + 1), () -> Lands.withBuffer(new DrumTowns(), buffer), buffer);
        }
        DrumTowns cleared = Lands.withBuffer(new DrumTowns(), codes.toString());
        cleared.clearBuffer();
        due("digest() with a buffer that is cleared", new DrumTowns().digest(), cleared.digest());
        cleared.append('z');
        DrumTowns fresh = Lands.withBuffer(new DrumTowns(), "z");
        due("digest() with a buffer that was cleared", fresh.digest(), cleared.digest());
    }
}
