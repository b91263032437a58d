/** Lands that several tests begin with. */
final class Lands {
    private Lands() {
    }

    static DrumTowns none() {
        return new DrumTowns();
    }

    /** Three towns with tunes, pins, wear, debts in a ring, six saved states and a buffer that is no tune. */
    static DrumTowns busy() {
        DrumTowns land = Checks.landOf(3, 20);
        Checks.learn(land, 0, "ab-(cd)");
        Checks.learn(land, 1, "(al)--k");
        Checks.learn(land, 2, "-b");
        put(land, 0, 0, 0, 1, 1, 5, 1, 23, 11);
        put(land, 1, 0, 0, 3, 10, 4, 10);
        put(land, 2, 1, 0, 0, 1);
        land.play(0);
        land.play(1);
        land.lend(0, 1, 5);
        land.lend(1, 0, 3);
        land.lend(1, 2, 2);
        Checks.append(land, "a(b");
        return land;
    }

    static DrumTowns six() {
        return Checks.landOf(6, 20);
    }

    /** Two towns with so many pins in their boxes, and so many at the most in a box. */
    static DrumTowns two(int first, int second, int most) {
        DrumTowns land = new DrumTowns();
        land.addTown(first);
        land.addTown(second);
        land.set(2, most);
        return land;
    }

    /** A town, with so many pins in its box and so many at the most in a box. */
    static DrumTowns one(int pins, int most) {
        DrumTowns land = new DrumTowns();
        land.addTown(pins);
        land.set(2, most);
        return land;
    }

    static DrumTowns withBuffer(DrumTowns land, String text) {
        land.clearBuffer();
        Checks.append(land, text);
        return land;
    }

    /** Puts pins, each told by its step and its tooth. */
    static DrumTowns put(DrumTowns land, int town, int... places) {
        for (int i = 0; i + 1 < places.length; i += 2) {
            land.put(town, places[i], places[i + 1]);
        }
        return land;
    }

    /** Makes a town owe to another one. */
    static void owe(DrumTowns land, int from, int to, int pins) {
        land.lend(to, from, pins);
    }
}
