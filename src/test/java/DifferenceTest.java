/** Promises 24 and 25: differences of patch sets. */
public final class DifferenceTest {
    private static final int NONE = ReviewForge.NONE;

    public static void main(String[] args) {
        hunksOfAFile();
        pairsThatAreChosen();
        whatARebaseBrought();
        alikeByWords();
        wrongNumbers();
        Expect.finish("DifferenceTest");
    }

    private static void hunksOfAFile() {
        ReviewForge forge = new ReviewForge();
        House.fill(forge, 0, 1, 2, 3, 4, 5);
        forge.open(0);
        House.fill(forge, 0, 8, 1, 3, 104, 5, 6, 7);
        forge.upload(0, 0);
        Expect.due(24, "hunks", forge.hunks(0, 0, 1, 0, false), 4);
        Expect.due(25, "hunk 0 adds at the beginning", forge.hunkAt(0, 0, 1, 0, false, 0), 1);
        Expect.due(25, "hunk 1 drops", forge.hunkAt(0, 0, 1, 0, false, 1), 1010200);
        Expect.due(25, "hunk 2 changes an indent", forge.hunkAt(0, 0, 1, 0, false, 2), 3010301);
        Expect.due(25, "hunk 3 adds at the end", forge.hunkAt(0, 0, 1, 0, false, 3), 5000502);
        Expect.due(25, "hunk 4", forge.hunkAt(0, 0, 1, 0, false, 4), NONE);
        Expect.due(25, "a far hunk", forge.hunkAt(0, 0, 1, 0, false, Integer.MAX_VALUE), NONE);
        Expect.due(24, "by words", forge.hunks(0, 0, 1, 0, true), 3);
        Expect.due(25, "by words, hunk 2", forge.hunkAt(0, 0, 1, 0, true, 2), 5000502);
        Expect.due(24, "the other way round", forge.hunks(0, 1, 0, 0, false), 4);
        Expect.due(25, "the other way round, hunk 0", forge.hunkAt(0, 1, 0, 0, false, 0), 10000);
        Expect.due(25, "the other way round, hunk 1", forge.hunkAt(0, 1, 0, 0, false, 1), 2000101);
        Expect.due(24, "a set and itself", forge.hunks(0, 1, 1, 0, false), 0);
        Expect.due(25, "a set and itself", forge.hunkAt(0, 1, 1, 0, false, 0), NONE);
        Expect.due(24, "another file", forge.hunks(0, 0, 1, 1, false), 0);
        House.fill(forge, 0);
        forge.upload(0, 0);
        Expect.due(24, "all dropped", forge.hunks(0, 0, 2, 0, false), 1);
        Expect.due(25, "all dropped", forge.hunkAt(0, 0, 2, 0, false, 0), 5 * 10000);
    }

    /** As many pairs as can be had; of several ways the one that keeps the line of the first file, if it must. */
    private static void pairsThatAreChosen() {
        ReviewForge forge = new ReviewForge();
        House.fill(forge, 0, 1, 2);
        House.fill(forge, 1, 1, 2, 3, 1, 2);
        House.fill(forge, 2, 5, 5);
        forge.open(0);
        House.fill(forge, 0, 2, 1);
        House.fill(forge, 1, 3, 1, 2, 3);
        House.fill(forge, 2, 5);
        forge.upload(0, 0);
        Expect.due(24, "a swap", forge.hunks(0, 0, 1, 0, false), 2);
        Expect.due(25, "the first line of the first file goes", forge.hunkAt(0, 0, 1, 0, false, 0), 10000);
        Expect.due(25, "it comes behind", forge.hunkAt(0, 0, 1, 0, false, 1), 2000101);
        Expect.due(24, "three pairs", forge.hunks(0, 0, 1, 1, false), 2);
        Expect.due(25, "two lines go", forge.hunkAt(0, 0, 1, 1, false, 0), 20000);
        Expect.due(25, "one comes", forge.hunkAt(0, 0, 1, 1, false, 1), 5000301);
        Expect.due(25, "the first of two that are the same is paired", forge.hunkAt(0, 0, 1, 2, false, 0), 1010100);
    }

    private static void whatARebaseBrought() {
        ReviewForge forge = new ReviewForge();
        House.fill(forge, 0, 1, 2, 3, 4, 5, 6);
        forge.open(0);
        House.fill(forge, 0, 7, 1, 2, 7, 3, 4, 5);
        forge.upload(0, 0);
        forge.take(2);
        House.fill(forge, 0, 1, 2, 3, 4, 5, 6, 9);
        forge.open(1);
        forge.take(3);
        House.fill(forge, 0, 7, 1, 2, 7, 3, 4, 7, 5, 9);
        forge.upload(1, 1);
        Expect.due(24, "between both bases", forge.hunks(0, 0, 1, 0, false), 3);
        // the hunks between the sets: 7 comes (three times), 6 goes; those that add 7 alone are brought, and the last
        Expect.due(24, "what the base brought is left out", forge.hunks(1, 0, 1, 0, false), 0);
        forge.take(3);
        House.fill(forge, 0, 7, 1, 8, 2, 7, 3, 4, 5, 6, 9);
        forge.upload(1, 1);
        Expect.due(24, "hunks of its own stay", forge.hunks(1, 0, 2, 0, false), 1);
        Expect.due(25, "the one that stays", forge.hunkAt(1, 0, 2, 0, false, 0), 1000201);
        Expect.due(25, "there is no other", forge.hunkAt(1, 0, 2, 0, false, 1), NONE);
        Expect.due(24, "with one base none is left out", forge.hunks(1, 1, 2, 0, false), 3);
    }

    private static void alikeByWords() {
        ReviewForge forge = new ReviewForge();
        House.fill(forge, 0, 1, 2);
        forge.open(0);
        House.fill(forge, 0, 1, 2, 105);
        forge.upload(0, 0);
        forge.take(2);
        House.fill(forge, 0, 1, 2);
        House.fill(forge, 1, 4);
        forge.open(1);
        forge.take(3);
        House.fill(forge, 0, 1, 2, 205);
        House.fill(forge, 1, 304);
        forge.upload(1, 1);
        Expect.due(24, "with another indent it is not alike", forge.hunks(1, 0, 1, 0, false), 1);
        Expect.due(25, "the hunk", forge.hunkAt(1, 0, 1, 0, false, 0), 2000201);
        Expect.due(24, "by words it is", forge.hunks(1, 0, 1, 0, true), 0);
        Expect.due(24, "another file", forge.hunks(1, 0, 1, 1, false), 1);
        Expect.due(24, "another file by words", forge.hunks(1, 0, 1, 1, true), 0);
    }

    private static void wrongNumbers() {
        ReviewForge forge = new ReviewForge();
        forge.open(0);
        Expect.index(24, forge, "no such change", () -> forge.hunks(1, 0, 0, 0, false));
        Expect.index(24, forge, "no such change", () -> forge.hunks(-1, 0, 0, 0, false));
        Expect.index(24, forge, "no such set", () -> forge.hunks(0, 1, 0, 0, false));
        Expect.index(24, forge, "no such set", () -> forge.hunks(0, -1, 0, 0, false));
        Expect.index(24, forge, "no such other", () -> forge.hunks(0, 0, 1, 0, false));
        Expect.index(24, forge, "no such other", () -> forge.hunks(0, 0, -1, 0, false));
        Expect.index(24, forge, "no such file", () -> forge.hunks(0, 0, 0, 4, false));
        Expect.index(24, forge, "no such file", () -> forge.hunks(0, 0, 0, -1, false));
        Expect.index(25, forge, "no such change", () -> forge.hunkAt(1, 0, 0, 0, false, 0));
        Expect.index(25, forge, "no such set", () -> forge.hunkAt(0, 1, 0, 0, false, 0));
        Expect.index(25, forge, "no such other", () -> forge.hunkAt(0, 0, -1, 0, false, 0));
        Expect.index(25, forge, "no such file", () -> forge.hunkAt(0, 0, 0, 4, false, 0));
        Expect.index(25, forge, "no such hunk", () -> forge.hunkAt(0, 0, 0, 0, false, -1));
    }
}
