import java.util.function.Consumer;
import java.util.function.ObjIntConsumer;
import java.util.function.Supplier;

/**
 * A land is made twice; one takes a call, and what both tell then, back through all their saved
 * states, shows whether the call changed what it must not change.
 */
final class Twins {
    private static final int MOST_SAVED = 6;
    private static final int FIRST_OF_SIX = 10;

    private final Checks checks;

    Twins(Checks checks) {
        this.checks = checks;
    }

    /** The call must throw just this and change nothing, whether one more state could be saved or not. */
    void refused(String sentence, Class<? extends RuntimeException> want, Supplier<DrumTowns> made,
            Consumer<DrumTowns> call) {
        refusedAsMade(sentence, want, made, call);
        refusedAsMade(sentence + ", with 6 saved states", want, () -> withSixSaved(made.get()), call);
    }

    /** The same, with as many saved states as the land is made with. */
    void refusedAsMade(String sentence, Class<? extends RuntimeException> want, Supplier<DrumTowns> made,
            Consumer<DrumTowns> call) {
        DrumTowns land = made.get();
        checks.dueThrow(sentence, want, () -> call.accept(land));
        checks.dueText(sentence + ": it changes nothing", traceOf(made.get()), traceOf(land));
    }

    /** The call must throw nothing and change nothing. */
    void reads(String sentence, Supplier<DrumTowns> made, Consumer<DrumTowns> call) {
        DrumTowns land = made.get();
        call.accept(land);
        checks.dueText(sentence + ": it changes nothing", traceOf(made.get()), traceOf(land));
    }

    /**
     * The call must save one state, the one from before it, and drop at most the oldest one. The
     * other land saves a state by a call that changes nothing, so that both have as many then.
     */
    void undoes(String sentence, Supplier<DrumTowns> made, Consumer<DrumTowns> call) {
        DrumTowns land = made.get();
        DrumTowns like = made.get();
        int saved = Math.min(MOST_SAVED, land.count(10) + 1);
        call.accept(land);
        like.set(0, like.setting(0));
        checks.due(sentence + ": saved states", saved, land.count(10));
        checks.due(sentence + ": undo()", saved - 1, land.undo());
        like.undo();
        // The buffer is not brought back, and learn clears it.
        land.clearBuffer();
        like.clearBuffer();
        checks.dueText(sentence + ": the state from before it", traceOf(like), traceOf(land));
    }

    /** The hash of a land without its saved states; they are used up by that. */
    static long digestOfState(DrumTowns land) {
        for (int i = 0; i < MOST_SAVED; i++) {
            land.set(0, land.setting(0));
        }
        for (int i = 0; i < MOST_SAVED; i++) {
            land.undo();
        }
        return land.digest();
    }

    /** No town has a number below 0 or from the count on, be there none, three or six. */
    void noSuchTown(String call, ObjIntConsumer<DrumTowns> body) {
        Class<IndexOutOfBoundsException> want = IndexOutOfBoundsException.class;
        int[] wrongAlways = {-1, 6, 7, Integer.MIN_VALUE, Integer.MAX_VALUE};
        for (int town : wrongAlways) {
            String sentence = call + ": there is no town " + town;
            refused(sentence, want, Lands::busy, land -> body.accept(land, town));
            refusedAsMade(sentence, want, Lands::none, land -> body.accept(land, town));
            refusedAsMade(sentence, want, Lands::six, land -> body.accept(land, town));
        }
        refusedAsMade(call + ": there is no town 0", want, Lands::none, land -> body.accept(land, 0));
        for (int town = 3; town <= 5; town++) {
            int above = town;
            refused(call + ": there is no town " + town, want, Lands::busy, land -> body.accept(land, above));
        }
    }

    /** Just the numbers from the least to the greatest one are in range. */
    void outOfRange(String sentence, Class<? extends RuntimeException> want, int least, int greatest,
            ObjIntConsumer<DrumTowns> body) {
        int[] wrong = {least - 1, greatest + 1, Integer.MIN_VALUE, Integer.MAX_VALUE};
        for (int number : wrong) {
            refused(sentence + ": " + number, want, Lands::busy, land -> body.accept(land, number));
        }
    }

    /** Saves six states that differ, and is as it was then. */
    private static DrumTowns withSixSaved(DrumTowns land) {
        int rest = land.setting(0);
        for (int i = 0; i < MOST_SAVED; i++) {
            land.set(0, FIRST_OF_SIX + i);
        }
        land.set(0, rest);
        return land;
    }

    /** All that a land tells, from now back to its oldest saved state, and in new towns; it is used up by that. */
    private static String traceOf(DrumTowns land) {
        StringBuilder trace = new StringBuilder();
        trace.append(land.digest());
        for (int left = land.count(10); left > 0; left--) {
            trace.append(' ').append(land.undo()).append(' ').append(land.digest());
        }
        for (int town = land.count(0); town < 6; town++) {
            trace.append(' ').append(land.addTown(0)).append(' ').append(land.digest());
        }
        return trace.toString();
    }
}
