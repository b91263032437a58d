import java.util.function.Supplier;

/**
 * The hash as promise 32 tells it, of what the other calls answer. They are asked of lands that are
 * made alike, one for each town, as an object is used for at most 512 calls.
 */
final class DigestOfAnswers {
    private DigestOfAnswers() {
    }

    static long of(Supplier<DrumTowns> made, String buffer) {
        DrumTowns land = made.get();
        long hash = 2357;
        for (int what = 0; what <= 10; what++) {
            hash = 31 * hash + land.count(what);
        }
        for (int i = 0; i <= 2; i++) {
            hash = 31 * hash + land.setting(i);
        }
        for (int i = 0; i < land.count(0); i++) {
            hash = ofTown(made.get(), i, hash);
        }
        hash = 31 * hash + land.bestTrades(0);
        for (int what = 10; what <= 15; what++) {
            hash = 31 * hash + land.bestTrades(what);
        }
        hash = 31 * hash + land.ring(0);
        hash = 31 * hash + land.ring(1);
        for (int what = 10; what <= 15; what++) {
            hash = 31 * hash + land.ring(what);
        }
        hash = 31 * hash + Double.doubleToLongBits(land.tuneShare());
        hash = 31 * hash + buffer.length();
        for (int i = 0; i < buffer.length(); i++) {
            hash = 31 * hash + buffer.charAt(i);
        }
        return hash;
    }

    private static long ofTown(DrumTowns land, int town, long start) {
        long hash = start;
        for (int what = 0; what <= 11; what++) {
            hash = 31 * hash + land.town(town, what);
        }
        for (int what = 0; what <= 4; what++) {
            hash = 31 * hash + land.ifPlayed(town, what);
        }
        hash = 31 * hash + land.lastsFor(town);
        hash = 31 * hash + land.bestTurn(town, 0);
        hash = 31 * hash + land.bestTurn(town, 1);
        hash = 31 * hash + land.bestDrum(town);
        for (int i = 0; i < 12; i++) {
            hash = 31 * hash + land.wear(town, i);
        }
        for (int i = 0; i < land.count(0); i++) {
            hash = 31 * hash + land.debt(town, i);
        }
        for (int i = 0; i < 24; i++) {
            for (int what = 0; what <= 2; what++) {
                hash = 31 * hash + land.step(town, i, what);
            }
        }
        return hash;
    }
}
