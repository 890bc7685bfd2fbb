/** Promises 33 to 37: owners. */
public final class OwnerTest {
    public static void main(String[] args) {
        lists();
        cuts();
        includes();
        theLastResort();
        theFewest();
        whatIsChanged();
        wrongNumbers();
        Expect.finish("OwnerTest");
    }

    private static void lists() {
        ReviewForge forge = new ReviewForge();
        Expect.due(33, "a list of a file", forge.setOwners(0, 1, 2, false), 0);
        Expect.due(33, "of a directory", forge.setOwners(0, 4, 4, false), 0);
        Expect.due(33, "of the other one", forge.setOwners(0, 5, 8, false), 0);
        Expect.due(33, "of the root", forge.setOwners(0, 6, 16, false), 0);
        Expect.due(36, "file 0", forge.owners(0, 0), 4 + 16);
        Expect.due(36, "file 1", forge.owners(0, 1), 2 + 4 + 16);
        Expect.due(36, "file 2", forge.owners(0, 2), 8 + 16);
        Expect.due(36, "file 3", forge.owners(0, 3), 8 + 16);
        Expect.due(36, "the other repository", forge.owners(1, 1), 1);
        Expect.due(33, "the people before", forge.setOwners(0, 6, 63, true), 16);
        Expect.due(36, "a cut root is none", forge.owners(0, 2), 63);
        Expect.due(33, "the people before", forge.setOwners(0, 6, 0, true), 63);
        Expect.due(36, "an empty root", forge.owners(0, 2), 8);
    }

    private static void cuts() {
        ReviewForge forge = new ReviewForge();
        forge.setOwners(1, 3, 1, true);
        forge.setOwners(1, 5, 2, true);
        forge.setOwners(1, 4, 4, false);
        forge.setOwners(1, 6, 8, false);
        Expect.due(33, "a cut file", forge.owners(1, 3), 1);
        Expect.due(33, "a cut directory", forge.owners(1, 2), 2);
        Expect.due(33, "none is cut", forge.owners(1, 1), 4 + 8);
        forge.setOwners(1, 3, 1, false);
        Expect.due(33, "not cut any more", forge.owners(1, 3), 1 + 2);
        forge.setOwners(1, 5, 0, true);
        Expect.due(36, "nobody is left: the last resort", forge.owners(1, 2), 1);
        forge.setOwners(1, 2, 0, true);
        forge.setLastResort(5);
        Expect.due(36, "a cut file without people", forge.owners(1, 2), 32);
    }

    private static void includes() {
        ReviewForge forge = new ReviewForge();
        forge.setOwners(0, 4, 1, true);
        forge.setOwners(0, 5, 2, false);
        forge.setOwners(0, 6, 4, false);
        forge.setOwners(0, 0, 8, false);
        forge.setOwners(0, 1, 16, true);
        Expect.due(34, "setInclude", forge.setInclude(0, 0, true), false);
        Expect.due(34, "again", forge.setInclude(0, 0, true), true);
        Expect.due(34, "the list of the other one, but not the root", forge.owners(0, 0), 8 + 1 + 2);
        Expect.due(34, "not for a cut file", forge.owners(0, 1), 16);
        Expect.due(34, "not the other way round", forge.owners(0, 2), 2 + 4);
        Expect.due(34, "the other way round", forge.setInclude(0, 1, true), false);
        Expect.due(34, "what is cut there does not cut here", forge.owners(0, 2), 2 + 1 + 4);
        Expect.due(34, "the other repository", forge.owners(1, 0), 1);
        Expect.due(34, "no more", forge.setInclude(0, 0, false), true);
        Expect.due(34, "no more", forge.owners(0, 0), 8 + 1);
        Expect.due(34, "no more", forge.setInclude(0, 0, false), false);
    }

    private static void theLastResort() {
        ReviewForge forge = new ReviewForge();
        Expect.due(35, "setLastResort(3)", forge.setLastResort(3), 0);
        Expect.due(36, "owners", forge.owners(0, 0), 8);
        Expect.due(36, "owners", forge.owners(1, 3), 8);
        forge.setOwners(0, 0, 2, false);
        Expect.due(36, "not where there are some", forge.owners(0, 0), 2);
        Expect.due(35, "setLastResort(5)", forge.setLastResort(5), 3);
    }

    private static void theFewest() {
        ReviewForge forge = new ReviewForge();
        for (int file = 0; file < 4; file++) {
            forge.put(file, 0, file);
        }
        forge.open(0);
        forge.setOwners(0, 0, 1 + 4, false);
        forge.setOwners(0, 1, 2 + 4, false);
        forge.setOwners(0, 2, 8 + 16, false);
        forge.setOwners(0, 3, 8 + 32, false);
        Expect.due(37, "two suffice", forge.fewest(0), 4 + 8);
        forge.setOwners(0, 1, 2, false);
        Expect.due(37, "three; of several the lowest", forge.fewest(0), 1 + 2 + 8);
        forge.setOwners(0, 3, 32, false);
        Expect.due(37, "four", forge.fewest(0), 1 + 2 + 8 + 32);
        forge.setOwners(0, 6, 32, false);
        Expect.due(37, "one of the root", forge.fewest(0), 32);
        forge.setOwners(0, 6, 16 + 32, false);
        Expect.due(37, "of several the lowest", forge.fewest(0), 16);
        forge.setOwners(0, 3, 32, true);
        Expect.due(37, "where the root does not count", forge.fewest(0), 32);
    }

    private static void whatIsChanged() {
        ReviewForge forge = new ReviewForge();
        forge.setOwners(0, 0, 2, false);
        forge.setOwners(0, 3, 4, false);
        forge.put(0, 0, 1);
        forge.open(0);
        forge.take(2);
        forge.open(1);
        Expect.due(37, "none is changed", forge.fewest(1), 0);
        Expect.due(37, "one is", forge.fewest(0), 2);
        forge.put(3, 0, 1);
        forge.upload(1, 1);
        Expect.due(37, "by the current patch set against its base", forge.fewest(1), 4);
        forge.put(0, 0, 1);
        forge.upload(1, 1);
        Expect.due(37, "two are", forge.fewest(1), 6);
        forge.cut(0, 0);
        forge.cut(0, 0);
        forge.put(0, 0, 101);
        forge.upload(1, 1);
        Expect.due(37, "an indent is a change", forge.fewest(1), 6);
        forge.cut(3, 0);
        forge.upload(1, 1);
        Expect.due(37, "one is", forge.fewest(1), 2);
        forge.abandon(0, 1);
        Expect.due(37, "also when it is abandoned", forge.fewest(1), 2);
    }

    private static void wrongNumbers() {
        ReviewForge forge = new ReviewForge();
        Expect.index(33, forge, "no such repository", () -> forge.setOwners(2, 0, 64, false));
        Expect.index(33, forge, "no such repository", () -> forge.setOwners(-1, 0, 1, false));
        Expect.index(33, forge, "no such level", () -> forge.setOwners(0, 7, 64, false));
        Expect.index(33, forge, "no such level", () -> forge.setOwners(0, -1, 1, false));
        Expect.argument(33, forge, "no such people", () -> forge.setOwners(0, 0, 64, true));
        Expect.argument(33, forge, "no such people", () -> forge.setOwners(0, 0, -1, true));
        Expect.index(34, forge, "no such repository", () -> forge.setInclude(2, 0, true) ? 1 : 0);
        Expect.index(34, forge, "no such repository", () -> forge.setInclude(-1, 0, true) ? 1 : 0);
        Expect.index(34, forge, "no such directory", () -> forge.setInclude(0, 2, true) ? 1 : 0);
        Expect.index(34, forge, "no such directory", () -> forge.setInclude(0, -1, true) ? 1 : 0);
        Expect.index(35, forge, "no such person", () -> forge.setLastResort(6));
        Expect.index(35, forge, "no such person", () -> forge.setLastResort(-1));
        Expect.index(36, forge, "no such repository", () -> forge.owners(2, 0));
        Expect.index(36, forge, "no such repository", () -> forge.owners(-1, 0));
        Expect.index(36, forge, "no such file", () -> forge.owners(0, 4));
        Expect.index(36, forge, "no such file", () -> forge.owners(0, -1));
        Expect.index(37, forge, "no such change", () -> forge.fewest(0));
        Expect.index(37, forge, "no such change", () -> forge.fewest(-1));
    }
}
