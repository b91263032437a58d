/** The boundary cases that promises 14 to 18, and the terms under "Input text", name. */
public final class TextEdgesTest {
    private static final Class<IllegalArgumentException> ARGUMENT = IllegalArgumentException.class;
    private static final Class<IllegalStateException> STATE = IllegalStateException.class;

    private static final String OF_23 = "abcdefghijkl-----------";
    private static final String STARTS = "-(abcdefghijkl";

    private static final Checks CHECKS = new Checks();
    private static final Twins TWINS = new Twins(CHECKS);

    public static void main(String[] args) {
        oneTo24Steps();
        withoutAnythingBetweenThem();
        aStepIsNoToothOrALetter();
        twoOrMoreLetters();
        eachOneLater();
        lCannotBeTheFirstOne();
        howeverLongItsText();
        promise14CodesFrom33To126();
        promise14TheBufferHas60Characters();
        promise14IsNotUndoable();
        promise15ReturnsTheLengthThatItHad();
        promise15IsNotUndoable();
        promise16TheFirstOneOfSeveral();
        promise16TheLengthIfThereIsNone();
        promise17NoSuchTown();
        promise17NotACompleteTune();
        promise17BehindItsLastStep();
        promise17ClearsTheBuffer();
        promise17ReturnsHowManyPinsItNeeds();
        promise17Undoable();
        promise18ThereIsNone();
        promise18ReturnsHowManyAreLeft();
        promise18IsNotUndoable();
        CHECKS.end();
    }

    private static void due(String call, long want, long got) {
        CHECKS.due(call, want, got);
    }

    /** Just these characters go on behind the text; each other one is a syntax error at its end. */
    private static void dueNext(String text, String good) {
        for (int code = 33; code <= 126; code++) {
            DrumTowns land = Lands.withBuffer(new DrumTowns(), text);
            due("firstError() of " + text, text.length(), land.firstError());
            land.append(code);
            int want = good.indexOf(code) >= 0 ? text.length() + 1 : text.length();
            due("firstError() of " + text + (char) code, want, land.firstError());
        }
    }

    private static void dueTune(String text, int pins) {
        DrumTowns land = Lands.withBuffer(Checks.landOf(1, 0), text);
        due("firstError() of the tune " + text, text.length(), land.firstError());
        due("learn of the tune " + text, pins, land.learn(0));
        due("town(0, 2) of the tune " + text, pins, land.town(0, 2));
    }

    private static void dueNoTune(String text) {
        TWINS.refused("learn of " + text, ARGUMENT, () -> Lands.withBuffer(Lands.busy(), text), x -> x.learn(0));
    }

    /** "A tune as a text consists of 1 to 24 steps" */
    private static void oneTo24Steps() {
        dueNoTune("");
        dueTune("-", 0);
        dueTune("a", 1);
        dueTune("(al)", 2);
        dueTune(OF_23, 12);
        dueTune(OF_23 + "a", 13);
        dueTune(OF_23 + "(kl)", 14);
        dueNoTune(OF_23 + "a-");
        dueNoTune(OF_23 + "(kl)-");
        dueNoTune(OF_23 + "-(kl)");
        dueNext(OF_23, STARTS);
        dueNext(OF_23 + "a", "");
        dueNext(OF_23 + "(kl)", "");
        dueNext(OF_23 + "(", "abcdefghijk");
        dueNext(OF_23 + "(kl", ")");
    }

    /** "without anything between them" */
    private static void withoutAnythingBetweenThem() {
        dueNext("", STARTS);
        dueNext("a", STARTS);
        dueNext("-", STARTS);
        dueNext("l", STARTS);
        dueNext("(ab)", STARTS);
        dueNoTune("a,b");
        dueNoTune("(ab).(cd)");
    }

    /** "a step is "-" (no tooth), a letter, "a" to "l", for the teeth 0 to 11" */
    private static void aStepIsNoToothOrALetter() {
        DrumTowns land = Lands.withBuffer(Checks.landOf(1, 0), "abcdefghijkl-a");
        due("learn", 13, land.learn(0));
        for (int i = 0; i < 12; i++) {
            due("the letter for the tooth " + i, 1 << i, land.step(0, i, 1));
        }
        due("no tooth", 0, land.step(0, 12, 1));
        due("the step behind it", 1, land.step(0, 13, 1));
        dueNoTune("m");
        dueNoTune("`");
        dueNoTune("A");
        dueNoTune("L");
    }

    /** "or "(", two or more such letters .. and ")"" */
    private static void twoOrMoreLetters() {
        dueNext("(", "abcdefghijk");
        dueNext("(a", "bcdefghijkl");
        dueNext("(ab", "cdefghijkl)");
        dueTune("(ab)", 2);
        dueTune("(abcdefghijkl)", 12);
        dueNoTune("()");
        dueNoTune("(a)");
        dueNoTune("(-)");
        dueNoTune("(a-)");
        dueNoTune("((ab))");
        dueNoTune("ab)");
        DrumTowns land = Lands.withBuffer(Checks.landOf(1, 0), "(al)-(bck)");
        land.learn(0);
        due("the teeth of the first step", 1 | 1 << 11, land.step(0, 0, 1));
        due("the teeth of the second step", 0, land.step(0, 1, 1));
        due("the teeth of the third step", 1 << 1 | 1 << 2 | 1 << 10, land.step(0, 2, 1));
    }

    /** "each one later in the alphabet than the one ahead of it" */
    private static void eachOneLater() {
        dueNext("(e", "fghijkl");
        dueNext("(ae", "fghijkl)");
        dueNext("(aj", "kl)");
        dueNext("(ak", "l)");
        dueNext("(al", ")");
        dueNoTune("(aa)");
        dueNoTune("(ba)");
        dueNoTune("(acb)");
        dueNoTune("(abb)");
        dueTune("(ac)(ab)", 4);
    }

    /** "(so "l" cannot be the first one)" */
    private static void lCannotBeTheFirstOne() {
        dueNext("a(", "abcdefghijk");
        dueNext("(k", "l");
        dueNext("(kl", ")");
        dueTune("(kl)", 2);
        dueTune("l", 1);
        dueNoTune("(l)");
        dueNoTune("(la)");
    }

    /** "if no tune begins with the characters before it and this character (however long its text)" */
    private static void howeverLongItsText() {
        String brackets = "(abcdefghijkl)".repeat(4);
        dueNext(brackets + "---", STARTS);
        dueNext(brackets + "-(a", "bcdefghijkl");
        dueNext(brackets + "(ab", "cdefghijkl)");
        dueNext(brackets + "--(", "abcdefghijk");
        dueNoTune(brackets + "---(");
        dueNoTune(brackets + "-(ab");
        dueTune(brackets + "(kl)", 50);
        dueTune(brackets + "----", 48);
    }

    /** "code: the character code, 33 to 126"; "IllegalArgumentException if code is not 33 to 126" */
    private static void promise14CodesFrom33To126() {
        TWINS.outOfRange("append: code is 33 to 126", ARGUMENT, 33, 126, (land, code) -> land.append(code));
        int[] wrong = {0, 10, 32, 127, 128, 255, 97 + 256, 97 + 65536, -97};
        for (int code : wrong) {
            TWINS.refused("append: " + code, ARGUMENT, Lands::none, land -> land.append(code));
        }
        for (int code = 33; code <= 126; code++) {
            DrumTowns land = new DrumTowns();
            due("append(" + code + ")", 1, land.append(code));
            String buffer = "" + (char) code;
            long want = DigestOfAnswers.of(() -> Lands.withBuffer(new DrumTowns(), buffer), buffer);
            due("its place in the digest", want, land.digest());
        }
    }

    /** "The buffer has at most 60 characters."; "IllegalStateException if the buffer has 60 characters" */
    private static void promise14TheBufferHas60Characters() {
        DrumTowns land = new DrumTowns();
        for (int i = 1; i <= 60; i++) {
            due("append returns the new length", i, land.append('~'));
        }
        TWINS.refused("append of a 61st character", STATE, TextEdgesTest::withFullBuffer, x -> x.append('a'));
        TWINS.refused("append of a 61st character", STATE, TextEdgesTest::withFullBuffer, x -> x.append(126));
        due("the length then", 60, land.clearBuffer());
        due("append after clearBuffer", 1, land.append('a'));
    }

    private static DrumTowns withFullBuffer() {
        return Lands.withBuffer(Lands.busy(), "-".repeat(24) + "(".repeat(36));
    }

    private static void promise14IsNotUndoable() {
        DrumTowns land = Checks.landOf(2, 5);
        land.append('a');
        due("append saves no state", 2, land.count(10));
        due("undo() is of the call ahead of it", 1, land.undo());
        due("the buffer keeps it", 1, land.clearBuffer());
    }

    /** "Returns the length that it had." */
    private static void promise15ReturnsTheLengthThatItHad() {
        int[] lengths = {0, 1, 59, 60};
        for (int length : lengths) {
            DrumTowns land = Lands.withBuffer(new DrumTowns(), "(".repeat(length));
            due("clearBuffer() of " + length, length, land.clearBuffer());
            due("clearBuffer() again", 0, land.clearBuffer());
            due("firstError() then", 0, land.firstError());
            due("append then", 1, land.append('a'));
        }
    }

    private static void promise15IsNotUndoable() {
        DrumTowns land = Lands.withBuffer(Checks.landOf(2, 5), "ab");
        land.clearBuffer();
        due("clearBuffer saves no state", 2, land.count(10));
        due("undo() is of the call ahead of it", 1, land.undo());
        due("the buffer stays clear", 0, land.clearBuffer());
    }

    private static void dueError(String text, int want) {
        due("firstError() of " + text, want, Lands.withBuffer(new DrumTowns(), text).firstError());
        TWINS.reads("firstError() of " + text, () -> Lands.withBuffer(Lands.busy(), text), x -> x.firstError());
    }

    /** "Returns the index of the first character that is a syntax error" */
    private static void promise16TheFirstOneOfSeveral() {
        dueError("!", 0);
        dueError("!!", 0);
        dueError("a!b!", 1);
        dueError("(a)(b)", 2);
        dueError("a)b)", 1);
        dueError("-".repeat(24) + "!", 24);
        dueError("-".repeat(23) + "!" + "-".repeat(36), 23);
        dueError("-".repeat(60), 24);
        dueError("(ab)".repeat(15), 60);
        dueError("(ab)".repeat(14) + "(abb", 59);
    }

    /** "the length of the buffer if there is none" */
    private static void promise16TheLengthIfThereIsNone() {
        dueError("", 0);
        dueError("a", 1);
        dueError("(", 1);
        dueError("(a", 2);
        dueError("(ab", 3);
        dueError("(ab)", 4);
        dueError("-".repeat(24), 24);
        dueError("(abcdefghijkl)".repeat(4) + "(abc", 60);
    }

    /** "IndexOutOfBoundsException if there is no such town" */
    private static void promise17NoSuchTown() {
        TWINS.noSuchTown("learn of no tune", (land, town) -> land.learn(town));
        Class<IndexOutOfBoundsException> want = IndexOutOfBoundsException.class;
        int[] wrong = {-1, 3, 5, 6};
        for (int town : wrong) {
            TWINS.refused("learn of a tune", want, () -> Lands.withBuffer(Lands.busy(), "a"), x -> x.learn(town));
        }
        TWINS.refused("learn of a tune", want, () -> Lands.withBuffer(Lands.none(), "a"), x -> x.learn(0));
        DrumTowns land = Lands.withBuffer(Lands.six(), "a");
        due("learn by the last town", 1, land.learn(5));
    }

    /** "IllegalArgumentException if the buffer is not a complete tune" */
    private static void promise17NotACompleteTune() {
        dueNoTune("");
        dueNoTune("(");
        dueNoTune("(a");
        dueNoTune("(ab");
        dueNoTune("-(kl");
        dueNoTune(OF_23 + "(ab");
        dueNoTune("ab!");
        dueNoTune("!ab");
        dueNoTune("(ab)(");
        dueTune("(ab)", 2);
    }

    /** "(in the steps behind its last one there is nothing)" */
    private static void promise17BehindItsLastStep() {
        DrumTowns land = Checks.landOf(1, 0);
        Checks.learn(land, 0, "l".repeat(24));
        due("the last step of 24", 1 << 11, land.step(0, 23, 1));
        Checks.learn(land, 0, "a".repeat(23));
        due("the last step of 23", 1, land.step(0, 22, 1));
        due("the step behind it", 0, land.step(0, 23, 1));
        Checks.learn(land, 0, "(bc)");
        due("the only step", 6, land.step(0, 0, 1));
        for (int i = 1; i < 24; i++) {
            due("the step " + i + " behind it", 0, land.step(0, i, 1));
        }
        DrumTowns first = Lands.withBuffer(Checks.landOf(2, 0), "-".repeat(24) + "x");
        first.firstError();
        Checks.learn(first, 1, "-a");
        due("nothing of a text that was read ahead of it", 1, first.town(1, 2));
    }

    /** "and clears the buffer" */
    private static void promise17ClearsTheBuffer() {
        DrumTowns land = Lands.withBuffer(Lands.busy(), "ab");
        land.learn(0);
        due("the buffer of learn", 0, land.clearBuffer());
        due("another town's tune stays", Lands.busy().town(1, 2), land.town(1, 2));
        due("the drum stays", 4, land.town(0, 1));
        due("the box stays", 14, land.town(0, 0));
    }

    /** "Returns how many pins the tune needs." */
    private static void promise17ReturnsHowManyPinsItNeeds() {
        dueTune("-", 0);
        dueTune("-".repeat(24), 0);
        dueTune("l".repeat(24), 24);
        dueTune("(abcdefghijkl)".repeat(4) + "(kl)", 50);
        dueTune("(abcdefghijkl)(abcdefghijkl)-a", 25);
    }

    private static void promise17Undoable() {
        TWINS.undoes("learn", () -> Lands.withBuffer(Lands.busy(), "(kl)-a"), land -> land.learn(0));
        TWINS.undoes("learn of nothing", () -> Lands.withBuffer(Lands.six(), "-"), land -> land.learn(5));
        DrumTowns land = Lands.withBuffer(Lands.busy(), "(kl)-a");
        land.learn(0);
        land.undo();
        due("undo() of learn leaves the buffer clear", 0, land.clearBuffer());
    }

    /** "IllegalStateException if there is none" */
    private static void promise18ThereIsNone() {
        TWINS.refusedAsMade("undo() of a new object", STATE, Lands::none, x -> x.undo());
        DrumTowns land = Lands.busy();
        for (int i = 0; i < 6; i++) {
            land.undo();
        }
        CHECKS.dueThrow("undo() after 6 times undo()", STATE, land, () -> land.undo());
        CHECKS.dueThrow("undo() once more", STATE, land, () -> land.undo());
        due("the buffer stays", 3, land.clearBuffer());
        due("a call after it is saved", 2, land.set(0, 3));
        due("undo() of it", 0, land.undo());
        due("the setting then", 2, land.setting(0));
    }

    /** "Returns how many saved states are left." */
    private static void promise18ReturnsHowManyAreLeft() {
        DrumTowns land = Lands.busy();
        for (int left = 5; left >= 0; left--) {
            due("undo()", left, land.undo());
            due("saved states", left, land.count(10));
        }
    }

    /** "Restores the latest saved state, and drops it.": undo itself is not undone by undo. */
    private static void promise18IsNotUndoable() {
        DrumTowns land = Checks.landOf(1, 5);
        land.put(0, 0, 0);
        land.put(0, 1, 1);
        land.undo();
        due("the drum after undo", 1, land.town(0, 1));
        land.undo();
        due("the drum after another undo", 0, land.town(0, 1));
        land.undo();
        due("towns after the last undo", 0, land.count(0));
    }
}
