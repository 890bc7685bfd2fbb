/** Promises 31 and 32: findings and their fixes. */
public final class FindingTest {
    private static final int NONE = ReviewForge.NONE;

    public static void main(String[] args) {
        fixesTaken();
        fixesThatTouch();
        fixesOfTheCurrentSet();
        tooManyLines();
        fortyFindings();
        findingsRefused();
        Expect.finish("FindingTest");
    }

    private static void desk(int promise, String call, ReviewForge forge, int file, int... want) {
        for (int place = 0; place < want.length; place++) {
            Expect.due(promise, call + ": line " + place, forge.line(NONE, file, place), want[place]);
        }
        Expect.due(promise, call + ": behind the last", forge.line(NONE, file, want.length), NONE);
    }

    private static void fixesTaken() {
        ReviewForge forge = new ReviewForge();
        forge.take(1);
        House.fill(forge, 0, 1, 2, 3, 4, 5);
        House.fill(forge, 1, 6);
        forge.open(0);
        Expect.due(31, "it takes two out, one comes", forge.find(0, 0, 0, 1, 2, 50), 0);
        Expect.due(31, "one comes at the end", forge.find(0, 0, 0, 5, 0, 51), 1);
        Expect.due(31, "one goes", forge.find(0, 0, 1, 0, 1, NONE), 2);
        Expect.due(31, "one comes at the beginning", forge.find(0, 0, 0, 0, 0, 52), 3);
        forge.take(0);
        Expect.due(32, "none", forge.takeFixes(0, 0), 0);
        Expect.due(32, "the base of the set", forge.before(NONE), 1);
        desk(32, "none", forge, 0, 1, 2, 3, 4, 5);
        desk(32, "none", forge, 1, 6);
        Expect.due(32, "all", forge.takeFixes(0, 15), 4);
        desk(32, "all", forge, 0, 52, 1, 50, 4, 5, 51);
        desk(32, "all", forge, 1);
        Expect.due(32, "two", forge.takeFixes(0, 5), 2);
        desk(32, "two", forge, 0, 1, 50, 4, 5);
        desk(32, "two", forge, 1);
        Expect.due(32, "they are uploaded to its repository", forge.upload(0, 0), 1);
    }

    private static void fixesThatTouch() {
        ReviewForge forge = new ReviewForge();
        House.fill(forge, 0, 1, 2, 3, 4, 5);
        forge.open(0);
        forge.find(0, 0, 0, 1, 1, 50);
        forge.find(0, 0, 0, 2, 1, 51);
        forge.find(0, 0, 0, 1, 0, 52);
        forge.find(0, 0, 0, 1, 1, 50);
        forge.find(0, 0, 0, 3, 1, NONE);
        forge.find(0, 0, 1, 0, 0, 53);
        forge.find(0, 0, 0, 4, 1, 54);
        forge.take(1);
        Expect.state(32, forge, "one begins where the other one ends", () -> forge.takeFixes(0, 3));
        Expect.state(32, forge, "one is put where the other one begins", () -> forge.takeFixes(0, 5));
        Expect.state(32, forge, "one is put where the other one ends", () -> forge.takeFixes(0, 4 + 1));
        Expect.state(32, forge, "both are the same", () -> forge.takeFixes(0, 9));
        Expect.state(32, forge, "one behind the other", () -> forge.takeFixes(0, 16 + 64));
        Expect.state(32, forge, "a touch among others", () -> forge.takeFixes(0, 1 + 32 + 16 + 64));
        Expect.due(32, "with a line between them", forge.takeFixes(0, 1 + 16 + 32), 3);
        desk(32, "with a line between them", forge, 0, 1, 50, 3, 5);
        desk(32, "another file", forge, 1, 53);
        Expect.argument(32, forge, "there are seven", () -> forge.takeFixes(0, 128));
        Expect.argument(32, forge, "there are seven", () -> forge.takeFixes(0, 128 + 3));
        Expect.argument(32, forge, "below 0", () -> forge.takeFixes(0, -1));
        Expect.argument(32, forge, "far below 0", () -> forge.takeFixes(0, Integer.MIN_VALUE));
        Expect.index(32, forge, "no such change", () -> forge.takeFixes(1, 0));
        Expect.index(32, forge, "no such change", () -> forge.takeFixes(-1, -1));
    }

    private static void fixesOfTheCurrentSet() {
        ReviewForge forge = new ReviewForge();
        House.fill(forge, 0, 1, 2, 3);
        forge.open(0);
        forge.open(1);
        forge.find(0, 0, 0, 0, 1, 50);
        forge.find(1, 0, 0, 0, 1, 51);
        forge.find(0, 0, 0, 2, 1, 52);
        Expect.due(32, "the second one of the change", forge.takeFixes(0, 2), 1);
        desk(32, "the second one of the change", forge, 0, 1, 2, 52);
        Expect.due(32, "the other change", forge.takeFixes(1, 1), 1);
        desk(32, "the other change", forge, 0, 51, 2, 3);
        forge.upload(0, 0);
        Expect.argument(32, forge, "there are none of the current set", () -> forge.takeFixes(0, 1));
        forge.find(0, 0, 0, 0, 0, 53);
        forge.find(0, 1, 0, 1, 0, 54);
        Expect.argument(32, forge, "just one is of the current set", () -> forge.takeFixes(0, 2));
        Expect.due(32, "the one", forge.takeFixes(0, 1), 1);
        desk(32, "the one", forge, 0, 51, 54, 2, 3);
    }

    private static void tooManyLines() {
        ReviewForge forge = new ReviewForge();
        House.fill(forge, 0, 0, 1, 2, 3, 4, 5, 6, 7, 8, 9);
        forge.open(0);
        forge.find(0, 0, 0, 10, 0, 50);
        forge.find(0, 0, 0, 3, 0, 51);
        forge.find(0, 0, 0, 5, 2, NONE);
        forge.take(1);
        Expect.state(32, forge, "an eleventh line", () -> forge.takeFixes(0, 1));
        Expect.state(32, forge, "an eleventh line in between", () -> forge.takeFixes(0, 2));
        Expect.due(32, "as many as go", forge.takeFixes(0, 7), 3);
        desk(32, "as many as go", forge, 0, 0, 1, 2, 51, 3, 4, 7, 8, 9, 50);
    }

    private static void fortyFindings() {
        ReviewForge forge = new ReviewForge();
        House.fill(forge, 0, 0, 1, 2, 3, 4, 5, 6, 7, 8, 9);
        forge.open(0);
        for (int number = 0; number < 40; number++) {
            int place = number == 30 ? 9 : 0;
            Expect.due(31, "find", forge.find(0, 0, 0, place, 1, number), number);
        }
        Expect.state(31, forge, "40 findings", () -> forge.find(0, 0, 0, 0, 1, 0));
        Expect.argument(31, forge, "40 findings, no such line", () -> forge.find(0, 0, 0, 0, 1, 400));
        Expect.due(32, "the bits 29 and 30", forge.takeFixes(0, (1 << 29) + (1 << 30)), 2);
        desk(32, "the bits 29 and 30", forge, 0, 29, 1, 2, 3, 4, 5, 6, 7, 8, 30);
    }

    private static void findingsRefused() {
        ReviewForge forge = new ReviewForge();
        House.fill(forge, 3, 1, 2);
        forge.open(0);
        Expect.index(31, forge, "no such change", () -> forge.find(1, 0, 3, 0, 0, 0));
        Expect.index(31, forge, "no such change", () -> forge.find(-1, 0, 3, 0, 0, 0));
        Expect.index(31, forge, "no such set", () -> forge.find(0, 1, 3, 0, 0, 0));
        Expect.index(31, forge, "no such set", () -> forge.find(0, -1, 3, 0, 0, 0));
        Expect.index(31, forge, "no such file", () -> forge.find(0, 0, 4, 0, 0, 400));
        Expect.index(31, forge, "no such file", () -> forge.find(0, 0, -1, 0, -1, 0));
        Expect.argument(31, forge, "fewer than none", () -> forge.find(0, 0, 3, 1, -1, 0));
        Expect.argument(31, forge, "over the end", () -> forge.find(0, 0, 3, 1, 2, 0));
        Expect.argument(31, forge, "behind the end", () -> forge.find(0, 0, 3, 2, 1, 0));
        Expect.argument(31, forge, "no such place", () -> forge.find(0, 0, 3, 3, 0, 0));
        Expect.argument(31, forge, "no such place", () -> forge.find(0, 0, 3, -1, 0, 0));
        Expect.argument(31, forge, "far too many", () -> forge.find(0, 0, 3, 1, Integer.MAX_VALUE, 0));
        Expect.argument(31, forge, "no such line", () -> forge.find(0, 0, 3, 0, 0, 400));
        Expect.argument(31, forge, "no such line", () -> forge.find(0, 0, 3, 0, 0, -2));
        Expect.due(31, "at the end", forge.find(0, 0, 3, 2, 0, 399), 0);
        Expect.due(31, "all", forge.find(0, 0, 3, 0, 2, 0), 1);
        Expect.due(31, "nothing at all", forge.find(0, 0, 3, 0, 0, NONE), 2);
        forge.abandon(0, 0);
        Expect.due(31, "also when it is abandoned", forge.find(0, 0, 0, 0, 0, 5), 3);
    }
}
