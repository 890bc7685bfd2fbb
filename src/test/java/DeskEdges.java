/** The boundary cases of lines, files, commits and the desk: promises 1 to 10. */
final class DeskEdges {
    private static final int NONE = ReviewForge.NONE;

    private DeskEdges() {
    }

    static void run() {
        manyCalls();
        numbers();
        linesAndFiles();
        commitsAndTrunks();
        theDesk();
        aNewObject();
        taking();
        puttingAndCutting();
        whatIsTold();
    }

    private static void manyCalls() {
        Edge.says("An object is used for at most 512 calls after it has been made;");
        ReviewForge forge = new ReviewForge();
        for (int call = 1; call < 511; call += 2) {
            forge.put(0, 0, call % 400);
            Edge.due("the call " + (call + 1), forge.cut(0, 0), call % 400);
        }
        forge.put(0, 0, 7);
        Edge.due("the call 512", forge.open(0), 0);
    }

    private static void numbers() {
        Edge.says("There are the people 0 to 5, the repositories 0 and 1, and in each the files 0 to 3;");
        Edge.due("the first person", new ReviewForge().open(0), 0);
        Edge.due("the last person", new ReviewForge().open(5), 0);
        Edge.index("one behind", ReviewForge::new, forge -> forge.open(6));
        Edge.index("one ahead", ReviewForge::new, forge -> forge.open(-1));
        Edge.due("the last file of the last repository", new ReviewForge().owners(1, 3), 1);
        Edge.index("a repository behind", ReviewForge::new, forge -> forge.owners(2, 3));
        Edge.index("a file behind", ReviewForge::new, forge -> forge.owners(1, 4));
        Edge.says("the files 0 and 1 are in the directory 0, the others in the directory 1.");
        ReviewForge forge = new ReviewForge();
        forge.setOwners(0, 4, 2, false);
        forge.setOwners(0, 5, 4, false);
        int[] due = {2, 2, 4, 4};
        for (int file = 0; file < 4; file++) {
            Edge.due("owners of the file " + file, forge.owners(0, file), due[file]);
        }
        Edge.says("Days are numbered from 0.");
        Edge.due("the first day", new ReviewForge().day(), 0);
    }

    private static void linesAndFiles() {
        Edge.says("A line is a number from 0 to 399: 100 times its indent, and its word, 0 to 99.");
        Edge.due("the least line", new ReviewForge().put(0, 0, 0), 1);
        Edge.due("the greatest line", new ReviewForge().put(0, 0, 399), 1);
        Edge.argument("one above", ReviewForge::new, forge -> forge.put(0, 0, 400));
        Edge.argument("one below", ReviewForge::new, forge -> forge.put(0, 0, -1));
        Edge.due("the word 99 with the indents 0 and 3", House.hunks(true, House.of(99), House.of(399)), "");
        Edge.due("the word 0 with the indents 0 and 3", House.hunks(true, House.of(0), House.of(300)), "");
        Edge.due("the words 99 and 0", House.hunks(true, House.of(99), House.of(100)), "10001");
        Edge.due("the words 0 and 99", House.hunks(true, House.of(300), House.of(399)), "10001");
        Edge.due("indents count otherwise", House.hunks(false, House.of(99), House.of(399)), "10001");

        Edge.says("A file is a row of up to 10 lines.");
        ReviewForge forge = House.with(House.row(0, 9));
        Edge.due("the tenth line", forge.put(0, 9, 9), 10);
        forge.open(0);
        Edge.due("ten lines of a commit", House.lines(forge, 2, 0), "0 1 2 3 4 5 6 7 8 9");
        Edge.state("an eleventh at the end", () -> House.with(House.row(0, 10)), full -> full.put(0, 10, 5));
        Edge.state("an eleventh at the beginning", () -> House.with(House.row(0, 10)), full -> full.put(0, 0, 5));
        Edge.due("another file is not full", House.with(House.row(0, 10)).put(1, 0, 5), 1);
    }

    private static void commitsAndTrunks() {
        Edge.says("A commit is of a repository, has all its files, and, but for the first ones, a commit ahead of it.");
        ReviewForge forge = new ReviewForge();
        Edge.due("none ahead of the first one", forge.before(0), NONE);
        Edge.due("none ahead of the other first one", forge.before(1), NONE);
        for (int file = 0; file < 4; file++) {
            House.fill(forge, file, file, file + 10);
        }
        forge.open(0);
        Edge.due("one ahead of the next one", forge.before(2), 0);
        for (int file = 0; file < 4; file++) {
            Edge.due("the file " + file, House.lines(forge, 2, file), file + " " + (file + 10));
        }
        Edge.due("its repository", forge.take(2), 0);

        Edge.says("Commits are numbered from 0; there can be 80.");
        ReviewForge last = commits(79);
        Edge.due("the last one", last.upload(0, 0), 77);
        Edge.due("its number", last.commitOf(0, 77), 79);
        Edge.due("all", last.commits(), 80);
        Edge.due("it can be taken", last.take(79), 0);
        Edge.state("one more", () -> commits(80), full -> full.upload(0, 0));

        Edge.says("The commits 0 and 1 are the first ones of the repositories 0 and 1, with empty files.");
        for (int commit = 0; commit < 2; commit++) {
            ReviewForge fresh = new ReviewForge();
            Edge.due("repository", fresh.take(commit), commit);
            for (int file = 0; file < 4; file++) {
                Edge.due("an empty file", House.lines(fresh, commit, file), "");
            }
        }

        Edge.says("The trunk of a repository is a row of commits, at first with the first one alone; its tip is the last one.");
        ReviewForge landed = House.allReady(House.opened(1));
        Edge.due("at first", landed.tip(0), 0);
        Edge.due("of the other one", landed.tip(1), 1);
        landed.land(0, 0);
        Edge.due("the last one", landed.tip(0), 3);
        Edge.due("the other one is as before", landed.tip(1), 1);
    }

    /** A house with so many commits, which are patch sets of the change 0. */
    private static ReviewForge commits(int many) {
        ReviewForge forge = new ReviewForge();
        forge.open(0);
        while (forge.commits() < many) {
            forge.upload(0, 0);
        }
        return forge;
    }

    private static void theDesk() {
        Edge.says("The desk has a commit as its base, at first the commit 0, and files, at first those of its base,");
        ReviewForge forge = new ReviewForge();
        Edge.due("its base", forge.before(NONE), 0);
        for (int file = 0; file < 4; file++) {
            Edge.due("an empty file", House.lines(forge, NONE, file), "");
        }
        forge.put(2, 0, 7);
        Edge.due("its base stays, when a line is put", forge.before(NONE), 0);
        Edge.due("the base is not changed by that", House.lines(forge, 0, 2), "");
    }

    private static void aNewObject() {
        Edge.says(1, "The day 0, two repositories with empty files; no changes, owners and watchers.");
        ReviewForge forge = new ReviewForge();
        Edge.due("the day", forge.day(), 0);
        Edge.due("commits", forge.commits(), 2);
        Edge.due("changes", forge.changes(), 0);
        Edge.index("not even the change 0", ReviewForge::new, fresh -> fresh.stateOf(0));
        Edge.index("not even the comment 0", ReviewForge::new, fresh -> fresh.shown(0, 0));
        for (int repository = 0; repository < 2; repository++) {
            for (int level = 0; level < 7; level++) {
                Edge.due("people before", forge.setOwners(repository, level, 0, false), 0);
            }
            for (int person = 0; person < 6; person++) {
                Edge.due("watched", forge.watch(person, repository, true), false);
            }
            Edge.due("included", forge.setInclude(repository, 0, false), false);
            Edge.due("included", forge.setInclude(repository, 1, false), false);
        }
        ReviewForge other = new ReviewForge();
        Edge.due("another object has none of that", other.watch(0, 0, false), false);
    }

    private static ReviewForge oneChange() {
        ReviewForge forge = new ReviewForge();
        forge.take(1);
        House.fill(forge, 3, 4, 5);
        forge.open(0);
        forge.take(0);
        return forge;
    }

    private static void taking() {
        Edge.says(2, "Returns its repository.");
        Edge.due("of the first one", new ReviewForge().take(0), 0);
        Edge.due("of the second one", new ReviewForge().take(1), 1);
        Edge.due("of a patch set", oneChange().take(2), 1);
        Edge.says(2, "Throws `IndexOutOfBoundsException` if there is no such commit");
        Edge.index("one behind the last", DeskEdges::oneChange, forge -> forge.take(3));
        Edge.index("NONE is no commit here", DeskEdges::oneChange, forge -> forge.take(NONE));

        Edge.says(3, "Returns the base.");
        Edge.due("a first commit", oneChange().takeSet(0, 0), 1);
        ReviewForge forge = oneChange();
        forge.takeSet(0, 0);
        Edge.due("the files are those of the patch set", House.lines(forge, NONE, 3), "4 5");
        Edge.says(3, "Throws `IndexOutOfBoundsException` if there is no such change or patch set");
        Edge.index("a change behind the last", DeskEdges::oneChange, some -> some.takeSet(1, 0));
        Edge.index("a change ahead of the first", DeskEdges::oneChange, some -> some.takeSet(-1, 0));
        Edge.index("a set behind the last", DeskEdges::oneChange, some -> some.takeSet(0, 1));
        Edge.index("a set ahead of the first", DeskEdges::oneChange, some -> some.takeSet(0, -1));
    }

    private static void puttingAndCutting() {
        Edge.says(4, "Returns how many lines it has then.");
        Edge.due("in an empty file", new ReviewForge().put(0, 0, 5), 1);
        Edge.due("the last that goes", House.with(House.row(0, 9)).put(0, 0, 5), 10);
        ReviewForge forge = House.with(1, 2);
        forge.put(0, 0, 10);
        forge.put(0, 2, 20);
        forge.put(0, 4, 30);
        Edge.due("at the beginning, in between, at the end", House.lines(forge, NONE, 0), "10 1 20 2 30");
        Edge.says(4, "Throws `IndexOutOfBoundsException` if there is no such file or place");
        Edge.index("a file behind", ReviewForge::new, some -> some.put(4, 0, 0));
        Edge.index("a file ahead", ReviewForge::new, some -> some.put(-1, 0, 0));
        Edge.index("a place behind the end of an empty file", ReviewForge::new, some -> some.put(0, 1, 0));
        Edge.index("a place behind the end", () -> House.with(1, 2), some -> some.put(0, 3, 0));
        Edge.index("a place ahead", () -> House.with(1, 2), some -> some.put(0, -1, 0));
        Edge.index("a place behind the end of a full file, and no line", () -> House.with(House.row(0, 10)),
                some -> some.put(0, 11, 400));
        Edge.says(4, "Throws `IllegalArgumentException` if line is out of range");
        Edge.argument("400", () -> House.with(1, 2), some -> some.put(0, 2, 400));
        Edge.argument("-1", () -> House.with(1, 2), some -> some.put(0, 0, -1));
        Edge.argument("also if the file is full", () -> House.with(House.row(0, 10)), some -> some.put(0, 10, 400));
        Edge.says(4, "Throws `IllegalStateException` if it has 10 lines");
        Edge.allowed("it has 9", () -> House.with(House.row(0, 9)), some -> some.put(0, 9, 0));
        Edge.state("it has 10", () -> House.with(House.row(0, 10)), some -> some.put(0, 10, 0));
        Edge.allowed("10, but for one that was cut", () -> House.with(House.row(0, 10)),
                some -> some.cut(0, 9) + some.put(0, 9, 1));

        Edge.says(5, "Returns the line.");
        Edge.due("the only one", House.with(399).cut(0, 0), 399);
        Edge.due("the last one of ten", House.with(House.row(0, 10)).cut(0, 9), 9);
        ReviewForge full = House.with(House.row(0, 10));
        Edge.due("the first one of ten", full.cut(0, 0), 0);
        Edge.due("what is left", House.lines(full, NONE, 0), "1 2 3 4 5 6 7 8 9");
        Edge.says(5, "Throws `IndexOutOfBoundsException` if there is no such file or place");
        Edge.index("a file behind", ReviewForge::new, some -> some.cut(4, 0));
        Edge.index("a file ahead", ReviewForge::new, some -> some.cut(-1, 0));
        Edge.index("an empty file", ReviewForge::new, some -> some.cut(0, 0));
        Edge.index("the place behind the last line", () -> House.with(1, 2), some -> some.cut(0, 2));
        Edge.index("a place ahead", () -> House.with(1, 2), some -> some.cut(0, -1));
        Edge.index("the place behind ten lines", () -> House.with(House.row(0, 10)), some -> some.cut(0, 10));
    }

    private static void whatIsTold() {
        Edge.says(7, "Returns the line; NONE behind the last one.");
        ReviewForge forge = House.opened(House.row(0, 10));
        Edge.due("the first one", forge.line(2, 0, 0), 0);
        Edge.due("the last one of ten", forge.line(2, 0, 9), 9);
        Edge.due("behind ten", forge.line(2, 0, 10), NONE);
        Edge.due("far behind", forge.line(2, 0, Integer.MAX_VALUE), NONE);
        Edge.due("an empty file", forge.line(2, 1, 0), NONE);
        Edge.due("the last one of the desk", forge.line(NONE, 0, 9), 9);
        Edge.due("behind the last one of the desk", forge.line(NONE, 0, 10), NONE);
        Edge.due("far behind on the desk", forge.line(NONE, 3, Integer.MAX_VALUE), NONE);
        Edge.says(7, "Throws `IndexOutOfBoundsException` if there is no such commit or file, or place is below 0");
        Edge.index("a commit behind the last", () -> House.opened(1), some -> some.line(3, 0, 0));
        Edge.index("below NONE", () -> House.opened(1), some -> some.line(-2, 0, 0));
        Edge.index("a file behind", () -> House.opened(1), some -> some.line(2, 4, 0));
        Edge.index("a file ahead", () -> House.opened(1), some -> some.line(2, -1, 0));
        Edge.index("a place below 0", () -> House.opened(1), some -> some.line(2, 0, -1));
        Edge.index("a place below 0 of the desk", () -> House.opened(1), some -> some.line(NONE, 0, -1));
        Edge.index("a file behind on the desk", () -> House.opened(1), some -> some.line(NONE, 4, 0));

        Edge.says(8, "Returns the commit; NONE for the first one of a repository.");
        Edge.due("of the repository 0", forge.before(0), NONE);
        Edge.due("of the repository 1", forge.before(1), NONE);
        Edge.due("the next one", forge.before(2), 0);
        forge.take(2);
        Edge.due("the desk", forge.before(NONE), 2);
        Edge.says(8, "Throws `IndexOutOfBoundsException` if there is no such commit");
        Edge.index("one behind the last", () -> House.opened(1), some -> some.before(3));
        Edge.index("below NONE", () -> House.opened(1), some -> some.before(-2));

        Edge.says(9, "Returns the commit.");
        Edge.due("the first one", new ReviewForge().tip(0), 0);
        Edge.due("of the second repository", new ReviewForge().tip(1), 1);
        Edge.says(9, "Throws `IndexOutOfBoundsException` if there is no such repository");
        Edge.index("one behind", () -> House.opened(1), some -> some.tip(2));
        Edge.index("one ahead", () -> House.opened(1), some -> some.tip(-1));

        Edge.says(10, "Returns the change; NONE if it is named after none.");
        ReviewForge landed = House.allReady(House.opened(1));
        landed.land(0, 0);
        Edge.due("a first one", landed.namedAfter(0), NONE);
        Edge.due("a patch set", landed.namedAfter(2), NONE);
        Edge.due("what has landed, after the change 0", landed.namedAfter(3), 0);
        Edge.says(10, "Throws `IndexOutOfBoundsException` if there is no such commit");
        Edge.index("one behind the last", () -> House.opened(1), some -> some.namedAfter(3));
        Edge.index("NONE is no commit here", () -> House.opened(1), some -> some.namedAfter(NONE));
    }
}
