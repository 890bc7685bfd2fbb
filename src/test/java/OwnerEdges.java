/** The boundary cases of owners: promises 33 to 37. */
final class OwnerEdges {
    private OwnerEdges() {
    }

    static void run() {
        lists();
        cutsAndIncludes();
        allWays();
        theLastResort();
        theFewest();
        setting();
        told();
    }

    private static void lists() {
        Edge.says("There is a list of people for each file, each directory, and for the root of each repository.");
        ReviewForge forge = new ReviewForge();
        for (int repository = 0; repository < 2; repository++) {
            for (int level = 0; level < 7; level++) {
                Edge.due("empty at first", forge.setOwners(repository, level, 20 * repository + level + 1, false), 0);
            }
        }
        for (int repository = 0; repository < 2; repository++) {
            for (int level = 0; level < 7; level++) {
                Edge.due("each has its own", forge.setOwners(repository, level, 0, false), 20 * repository + level + 1);
            }
        }
    }

    /** The file 0 has the person 0, its directory 1, the other directory 2, and the root 3. */
    private static ReviewForge listed(boolean isFileCut, boolean isDirectoryCut, boolean isOtherCut, boolean isIncluding) {
        ReviewForge forge = new ReviewForge();
        forge.setOwners(0, 0, 1, isFileCut);
        forge.setOwners(0, 4, 2, isDirectoryCut);
        forge.setOwners(0, 5, 4, isOtherCut);
        forge.setOwners(0, 6, 8, false);
        forge.setInclude(0, 0, isIncluding);
        return forge;
    }

    private static void cutsAndIncludes() {
        Edge.says("The list of a file or directory can be cut: then what is above it does not count;");
        Edge.due("nothing is cut", listed(false, false, false, false).owners(0, 0), 1 + 2 + 8);
        Edge.due("the file", listed(true, false, false, false).owners(0, 0), 1);
        Edge.due("the file does not cut another one's", listed(true, false, false, false).owners(0, 1), 2 + 8);
        Edge.due("the directory", listed(false, true, false, false).owners(0, 0), 1 + 2);
        Edge.due("the directory does not cut the other one's", listed(false, true, false, false).owners(0, 2), 4 + 8);
        Edge.due("the other directory does not cut here", listed(false, false, true, false).owners(0, 0), 1 + 2 + 8);
        Edge.says("and a directory can include the other one: then the list of that counts as well, but nothing above that.");
        Edge.due("its list", listed(false, true, false, true).owners(0, 0), 1 + 2 + 4);
        Edge.due("also if that is cut", listed(false, true, true, true).owners(0, 0), 1 + 2 + 4);
        Edge.due("not the root above that", listed(false, true, false, true).owners(0, 1), 2 + 4);
        Edge.due("the root by its own directory", listed(false, false, true, true).owners(0, 0), 1 + 2 + 4 + 8);
        Edge.due("the other one does not include by that", listed(false, false, false, true).owners(0, 3), 4 + 8);
        Edge.due("not what the other one includes", chained().owners(0, 0), 2 + 4);
    }

    /** Both directories include one another; nobody else is listed. */
    private static ReviewForge chained() {
        ReviewForge forge = new ReviewForge();
        forge.setOwners(0, 4, 2, false);
        forge.setOwners(0, 5, 4, false);
        forge.setInclude(0, 0, true);
        forge.setInclude(0, 1, true);
        return forge;
    }

    private static void allWays() {
        Edge.says("The owners of a file are those of its list; if that is not cut, of the list of its directory, of the one that"
                + " this includes, and, if the directory is not cut, of the root.");
        for (int way = 0; way < 16; way++) {
            boolean isFileCut = (way & 1) != 0;
            boolean isDirectoryCut = (way & 2) != 0;
            boolean isOtherCut = (way & 4) != 0;
            boolean isIncluding = (way & 8) != 0;
            int due = 1 + (isFileCut ? 0 : 2 + (isIncluding ? 4 : 0) + (isDirectoryCut ? 0 : 8));
            Edge.due("way " + way, listed(isFileCut, isDirectoryCut, isOtherCut, isIncluding).owners(0, 0), due);
        }
    }

    private static void theLastResort() {
        Edge.says("If there are none, all people whose number is that of the last resort are, at first the person 0.");
        ReviewForge forge = new ReviewForge();
        Edge.due("at first", forge.owners(1, 3), 1);
        forge.setLastResort(5);
        Edge.due("the last person", forge.owners(0, 0), 32);
        forge.setOwners(0, 6, 2, false);
        Edge.due("there is one", forge.owners(0, 0), 2);
        forge.setOwners(0, 0, 0, true);
        Edge.due("a cut and empty list", forge.owners(0, 0), 32);
        Edge.due("not for the file beside it", forge.owners(0, 1), 2);
        forge.setOwners(0, 4, 0, true);
        Edge.due("a cut and empty directory", forge.owners(0, 1), 32);
        Edge.due("the person who is last resort and owner", listed(true, true, true, false).owners(0, 0), 1);
    }

    /** A change that changes all files, which have these owners. */
    private static ReviewForge owned(int... people) {
        ReviewForge forge = new ReviewForge();
        for (int file = 0; file < people.length; file++) {
            forge.put(file, 0, 1);
            forge.setOwners(0, file, people[file], true);
        }
        forge.open(0);
        return forge;
    }

    private static void theFewest() {
        Edge.says("The fewest who suffice for some files is the smallest set of people such that each of these files has an owner"
                + " in it; of several the lowest one as a number, the bit p for the person p.");
        Edge.due("one for all", owned(63, 63, 63, 63).fewest(0), 1);
        Edge.due("the last one for all", owned(32 + 1, 32 + 2, 32 + 4, 32 + 8).fewest(0), 32);
        Edge.due("one rather than two that are lower", owned(1 + 8, 2 + 8).fewest(0), 8);
        Edge.due("two of several", owned(1 + 2, 1 + 4, 8 + 16, 16 + 32).fewest(0), 1 + 16);
        Edge.due("two, the lowest as a number", owned(1 + 2 + 32, 4 + 8).fewest(0), 1 + 4);
        Edge.due("two, not those of the lowest person", owned(1 + 16, 16 + 32, 2 + 8, 8 + 4).fewest(0), 8 + 16);
        Edge.due("the higher lowest person, but the lower number", owned(1 + 2, 2 + 32, 1 + 4, 4 + 32).fewest(0), 2 + 4);
        Edge.due("four", owned(1, 2, 4, 8).fewest(0), 15);
        Edge.due("the last four", owned(4, 8, 16, 32).fewest(0), 60);
        Edge.due("the last resort", owned(0).fewest(0), 1);
        Edge.due("the last resort and another one", owned(0, 2).fewest(0), 3);
        ReviewForge two = owned(1, 2);
        two.cut(1, 0);
        two.upload(0, 0);
        Edge.due("not for a file that is not changed", two.fewest(0), 1);
        two.put(1, 0, 1);
        two.open(1);
        two.takeSet(1, 0);
        two.setOwners(0, 0, 4, true);
        Edge.due("by the owners as they are now", two.fewest(1), 6);
    }

    private static void setting() {
        Edge.says(33, "Returns the people before.");
        ReviewForge forge = new ReviewForge();
        Edge.due("none", forge.setOwners(1, 6, 63, false), 0);
        Edge.due("all", forge.setOwners(1, 6, 0, false), 63);
        Edge.due("none again", forge.setOwners(1, 6, 1, true), 0);
        Edge.says(33, "- `isCut`: whether the list is cut; for the root nothing comes of it");
        Edge.due("the root counts", forge.owners(1, 2), 1);
        Edge.says(33, "Throws `IndexOutOfBoundsException` if there is no such repository or level");
        Edge.index("a repository behind, and no people", () -> listed(true, true, true, true), some -> some.setOwners(2, 0, 64, true));
        Edge.index("a repository ahead", () -> listed(true, true, true, true), some -> some.setOwners(-1, 0, 1, true));
        Edge.index("a level behind", () -> listed(true, true, true, true), some -> some.setOwners(0, 7, 1, true));
        Edge.index("a level ahead", () -> listed(true, true, true, true), some -> some.setOwners(1, -1, 1, true));
        Edge.says(33, "Throws `IllegalArgumentException` if people is out of range");
        Edge.argument("above all", () -> listed(true, true, true, true), some -> some.setOwners(0, 0, 64, false));
        Edge.argument("below none", () -> listed(true, true, true, true), some -> some.setOwners(0, 6, -1, false));

        Edge.says(34, "Returns whether it did.");
        Edge.due("at first", forge.setInclude(1, 1, true), false);
        Edge.due("then", forge.setInclude(1, 1, false), true);
        Edge.due("no more", forge.setInclude(1, 1, false), false);
        Edge.says(34, "Throws `IndexOutOfBoundsException` if there is no such repository or directory");
        Edge.index("a repository behind", OwnerEdges::chained, some -> some.setInclude(2, 0, false) ? 1 : 0);
        Edge.index("a repository ahead", OwnerEdges::chained, some -> some.setInclude(-1, 0, false) ? 1 : 0);
        Edge.index("a directory behind", OwnerEdges::chained, some -> some.setInclude(0, 2, false) ? 1 : 0);
        Edge.index("a directory ahead", OwnerEdges::chained, some -> some.setInclude(1, -1, true) ? 1 : 0);

        Edge.says(35, "Returns the person before.");
        Edge.due("at first", forge.setLastResort(5), 0);
        Edge.due("then", forge.setLastResort(0), 5);
        Edge.says(35, "Throws `IndexOutOfBoundsException` if there is no such person");
        Edge.index("one behind", OwnerEdges::chained, some -> some.setLastResort(6));
        Edge.index("one ahead", OwnerEdges::chained, some -> some.setLastResort(-1));
    }

    private static void told() {
        Edge.says(36, "Returns the people, as a set.");
        ReviewForge forge = new ReviewForge();
        forge.setOwners(0, 3, 63, true);
        Edge.due("all", forge.owners(0, 3), 63);
        Edge.due("not in the other repository", forge.owners(1, 3), 1);
        Edge.says(36, "Throws `IndexOutOfBoundsException` if there is no such repository or file");
        Edge.index("a repository behind", OwnerEdges::chained, some -> some.owners(2, 0));
        Edge.index("a repository ahead", OwnerEdges::chained, some -> some.owners(-1, 0));
        Edge.index("a file behind", OwnerEdges::chained, some -> some.owners(0, 4));
        Edge.index("a file ahead", OwnerEdges::chained, some -> some.owners(1, -1));
        Edge.says(37, "Returns the people, as a set; 0 if it changes none.");
        Edge.due("none", House.opened().fewest(0), 0);
        Edge.due("the last file alone", owned(0, 0, 0, 32).fewest(0), 33);
        Edge.due("an indent", indented().fewest(1), 2);
        Edge.says(37, "Throws `IndexOutOfBoundsException` if there is no such change");
        Edge.index("one behind", () -> owned(1), some -> some.fewest(1));
        Edge.index("one ahead", () -> owned(1), some -> some.fewest(-1));
    }

    private static ReviewForge indented() {
        ReviewForge forge = owned(2);
        House.openOn(forge, 2, 0, 101);
        return forge;
    }
}
