/** Compares answers with those that are due, prints each that is not, and ends the run with exit code 1 then. */
final class Checks {
    private int wrong;

    void due(String call, long want, long got) {
        if (want != got) {
            report(call + " answered " + got + ", due is " + want);
        }
    }

    void dueText(String call, String want, String got) {
        if (!want.equals(got)) {
            report(call + ": told " + got + ", due is " + want);
        }
    }

    void dueThrow(String call, Class<? extends RuntimeException> want, Runnable body) {
        Class<?> thrown = null;
        try {
            body.run();
        } catch (RuntimeException e) {
            thrown = e.getClass();
        }
        if (thrown != want) {
            report(call + (thrown == null ? " threw nothing" : " threw " + thrown.getName())
                    + ", due is " + want.getName());
        }
    }

    /** What must throw must leave the whole state as it was. */
    void dueThrow(String call, Class<? extends RuntimeException> want, DrumTowns land, Runnable body) {
        long before = land.digest();
        dueThrow(call, want, body);
        due(call + ", then digest()", before, land.digest());
    }

    void report(String what) {
        wrong++;
        System.out.println(what);
    }

    void end() {
        if (wrong != 0) {
            System.out.println(wrong + " answers are not as due");
            System.exit(1);
        }
    }

    static void append(DrumTowns land, String text) {
        for (int i = 0; i < text.length(); i++) {
            land.append(text.charAt(i));
        }
    }

    static int learn(DrumTowns land, int town, String tune) {
        land.clearBuffer();
        append(land, tune);
        return land.learn(town);
    }

    /** A land of so many towns with so many pins each. */
    static DrumTowns landOf(int towns, int pins) {
        DrumTowns land = new DrumTowns();
        for (int i = 0; i < towns; i++) {
            land.addTown(pins);
        }
        return land;
    }
}
