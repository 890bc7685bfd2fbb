/** Promises 1 to 10: a new object, commits and the desk. */
public final class DeskTest {
    private static final int NONE = ReviewForge.NONE;

    public static void main(String[] args) {
        aNewObject();
        linesOfTheDesk();
        aFullFile();
        takingCommits();
        takingSets();
        whatIsToldOfCommits();
        Expect.finish("DeskTest");
    }

    private static void aNewObject() {
        ReviewForge forge = new ReviewForge();
        Expect.due(1, "day()", forge.day(), 0);
        Expect.due(1, "commits()", forge.commits(), 2);
        Expect.due(1, "changes()", forge.changes(), 0);
        for (int repository = 0; repository < 2; repository++) {
            Expect.due(1, "tip", forge.tip(repository), repository);
            Expect.due(1, "before", forge.before(repository), NONE);
            Expect.due(1, "namedAfter", forge.namedAfter(repository), NONE);
            for (int file = 0; file < 4; file++) {
                Expect.due(1, "line", forge.line(repository, file, 0), NONE);
                Expect.due(1, "line of the desk", forge.line(NONE, file, 0), NONE);
                Expect.due(1, "owners: the last resort", forge.owners(repository, file), 1);
            }
            for (int person = 0; person < 6; person++) {
                Expect.due(1, "watch", forge.watch(person, repository, false), false);
            }
        }
        for (int person = 0; person < 6; person++) {
            Expect.due(1, "mails", forge.mails(person), 0);
        }
        Expect.due(1, "before(NONE)", forge.before(NONE), 0);
    }

    private static void linesOfTheDesk() {
        ReviewForge forge = new ReviewForge();
        Expect.due(4, "put(3, 0, 399)", forge.put(3, 0, 399), 1);
        Expect.due(4, "put(3, 0, 0)", forge.put(3, 0, 0), 2);
        Expect.due(4, "put(3, 1, 7)", forge.put(3, 1, 7), 3);
        Expect.due(7, "line(NONE, 3, 0)", forge.line(NONE, 3, 0), 0);
        Expect.due(7, "line(NONE, 3, 1)", forge.line(NONE, 3, 1), 7);
        Expect.due(7, "line(NONE, 3, 2)", forge.line(NONE, 3, 2), 399);
        Expect.due(7, "line(NONE, 3, 3)", forge.line(NONE, 3, 3), NONE);
        Expect.due(7, "line far behind", forge.line(NONE, 3, Integer.MAX_VALUE), NONE);
        Expect.due(7, "another file", forge.line(NONE, 2, 0), NONE);
        Expect.index(4, forge, "put(-1, 0, 0)", () -> forge.put(-1, 0, 0));
        Expect.index(4, forge, "put(4, 0, 400)", () -> forge.put(4, 0, 400));
        Expect.index(4, forge, "put(3, -1, 0)", () -> forge.put(3, -1, 0));
        Expect.index(4, forge, "put(3, 4, 400)", () -> forge.put(3, 4, 400));
        Expect.argument(4, forge, "put(3, 3, 400)", () -> forge.put(3, 3, 400));
        Expect.argument(4, forge, "put(3, 3, -1)", () -> forge.put(3, 3, -1));
        Expect.index(5, forge, "cut(4, 0)", () -> forge.cut(4, 0));
        Expect.index(5, forge, "cut(-1, 0)", () -> forge.cut(-1, 0));
        Expect.index(5, forge, "cut(3, 3)", () -> forge.cut(3, 3));
        Expect.index(5, forge, "cut(3, -1)", () -> forge.cut(3, -1));
        Expect.index(7, forge, "line(2, 0, 0)", () -> forge.line(2, 0, 0));
        Expect.index(7, forge, "line(-2, 0, 0)", () -> forge.line(-2, 0, 0));
        Expect.index(7, forge, "line(0, -1, 0)", () -> forge.line(0, -1, 0));
        Expect.index(7, forge, "line(0, 4, 0)", () -> forge.line(0, 4, 0));
        Expect.index(7, forge, "line(NONE, 0, -1)", () -> forge.line(NONE, 0, -1));
        Expect.due(5, "cut(3, 1)", forge.cut(3, 1), 7);
        Expect.due(5, "cut(3, 1)", forge.cut(3, 1), 399);
        Expect.due(5, "cut(3, 0)", forge.cut(3, 0), 0);
        Expect.due(5, "what is left", forge.line(NONE, 3, 0), NONE);
    }

    private static void aFullFile() {
        ReviewForge forge = new ReviewForge();
        for (int many = 0; many < 10; many++) {
            Expect.due(4, "put", forge.put(1, many, many), many + 1);
        }
        Expect.state(4, forge, "put(1, 10, 0)", () -> forge.put(1, 10, 0));
        Expect.state(4, forge, "put(1, 0, 0)", () -> forge.put(1, 0, 0));
        Expect.argument(4, forge, "put(1, 0, 400)", () -> forge.put(1, 0, 400));
        Expect.index(4, forge, "put(1, 11, 0)", () -> forge.put(1, 11, 0));
        Expect.index(5, forge, "cut(1, 10)", () -> forge.cut(1, 10));
        Expect.due(7, "line(NONE, 1, 9)", forge.line(NONE, 1, 9), 9);
        Expect.due(7, "line(NONE, 1, 10)", forge.line(NONE, 1, 10), NONE);
        Expect.due(5, "cut(1, 9)", forge.cut(1, 9), 9);
        Expect.due(5, "cut(1, 0)", forge.cut(1, 0), 0);
        Expect.due(7, "line(NONE, 1, 0)", forge.line(NONE, 1, 0), 1);
        Expect.due(4, "put(1, 8, 300)", forge.put(1, 8, 300), 9);
        Expect.due(7, "line(NONE, 1, 8)", forge.line(NONE, 1, 8), 300);
    }

    private static void takingCommits() {
        ReviewForge forge = new ReviewForge();
        forge.put(0, 0, 5);
        forge.put(2, 0, 6);
        forge.open(0);
        forge.put(0, 1, 7);
        Expect.due(2, "take(0)", forge.take(0), 0);
        Expect.due(2, "files of the desk", forge.line(NONE, 0, 0), NONE);
        Expect.due(2, "take(2)", forge.take(2), 0);
        Expect.due(2, "base of the desk", forge.before(NONE), 2);
        Expect.due(2, "file 0 of the desk", forge.line(NONE, 0, 0), 5);
        Expect.due(2, "file 0 of the desk", forge.line(NONE, 0, 1), NONE);
        Expect.due(2, "file 2 of the desk", forge.line(NONE, 2, 0), 6);
        forge.put(0, 0, 1);
        Expect.due(2, "the commit is not changed by the desk", forge.line(2, 0, 0), 5);
        Expect.due(2, "take(1)", forge.take(1), 1);
        Expect.due(2, "base of the desk", forge.before(NONE), 1);
        Expect.index(2, forge, "take(3)", () -> forge.take(3));
        Expect.index(2, forge, "take(-1)", () -> forge.take(-1));
    }

    private static void takingSets() {
        ReviewForge forge = new ReviewForge();
        forge.put(0, 0, 5);
        forge.open(0);
        forge.take(2);
        forge.put(3, 0, 9);
        forge.open(1);
        forge.take(1);
        Expect.due(3, "takeSet(1, 0)", forge.takeSet(1, 0), 2);
        Expect.due(3, "base of the desk", forge.before(NONE), 2);
        Expect.due(3, "file 0", forge.line(NONE, 0, 0), 5);
        Expect.due(3, "file 3", forge.line(NONE, 3, 0), 9);
        Expect.due(3, "the repository comes along", forge.open(2), 2);
        Expect.due(3, "parent of what was opened", forge.parentOf(2), 0);
        Expect.due(3, "takeSet(0, 0)", forge.takeSet(0, 0), 0);
        Expect.due(3, "file 3", forge.line(NONE, 3, 0), NONE);
        Expect.index(3, forge, "takeSet(3, 0)", () -> forge.takeSet(3, 0));
        Expect.index(3, forge, "takeSet(-1, 0)", () -> forge.takeSet(-1, 0));
        Expect.index(3, forge, "takeSet(0, 1)", () -> forge.takeSet(0, 1));
        Expect.index(3, forge, "takeSet(0, -1)", () -> forge.takeSet(0, -1));
    }

    private static void whatIsToldOfCommits() {
        ReviewForge forge = new ReviewForge();
        forge.take(1);
        forge.put(0, 0, 5);
        forge.open(0);
        Expect.due(6, "commits()", forge.commits(), 3);
        Expect.due(8, "before(2)", forge.before(2), 1);
        Expect.due(8, "before(1)", forge.before(1), NONE);
        Expect.due(8, "before(NONE)", forge.before(NONE), 1);
        forge.upload(0, 0);
        Expect.due(6, "commits()", forge.commits(), 4);
        Expect.due(9, "tip(1) before landing", forge.tip(1), 1);
        forge.vote(1, 0, 1, ReviewForge.VERIFY, 1);
        forge.setOwners(1, 6, 2, false);
        forge.vote(1, 0, 1, ReviewForge.REVIEW, 2);
        Expect.due(10, "namedAfter(3)", forge.namedAfter(3), NONE);
        Expect.due(47, "land(0, 0)", forge.land(0, 0), 1);
        Expect.due(9, "tip(1)", forge.tip(1), 4);
        Expect.due(9, "tip(0)", forge.tip(0), 0);
        Expect.due(10, "namedAfter(4)", forge.namedAfter(4), 0);
        Expect.due(10, "namedAfter(3)", forge.namedAfter(3), NONE);
        Expect.due(10, "namedAfter(0)", forge.namedAfter(0), NONE);
        Expect.due(8, "before(4)", forge.before(4), 1);
        Expect.index(8, forge, "before(5)", () -> forge.before(5));
        Expect.index(8, forge, "before(-2)", () -> forge.before(-2));
        Expect.index(9, forge, "tip(-1)", () -> forge.tip(-1));
        Expect.index(9, forge, "tip(2)", () -> forge.tip(2));
        Expect.index(10, forge, "namedAfter(5)", () -> forge.namedAfter(5));
        Expect.index(10, forge, "namedAfter(-1)", () -> forge.namedAfter(-1));
    }
}
