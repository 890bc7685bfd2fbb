/** The boundary cases of findings and their fixes: promises 31 and 32. */
final class FindingEdges {
    private static final int NONE = ReviewForge.NONE;

    private FindingEdges() {
    }

    static void run() {
        numbers();
        whatAFixIs();
        fixesThatTouch();
        whatTheDeskGets();
        findRefused();
        takingRefused();
    }

    /** A change with ten lines, and so many findings, each of which puts its number in place of the first line. */
    private static ReviewForge findings(int many) {
        ReviewForge forge = House.opened(House.row(100, 10));
        for (int finding = 0; finding < many; finding++) {
            forge.find(0, 0, 0, 0, 1, finding);
        }
        return forge;
    }

    private static void numbers() {
        Edge.says("Findings are numbered from 0; there can be 40.");
        Edge.due("the first one", findings(0).find(0, 0, 0, 0, 1, 5), 0);
        Edge.due("the last one", findings(39).find(0, 0, 0, 0, 1, 5), 39);
        Edge.state("one more", () -> findings(40), forge -> forge.find(0, 0, 0, 0, 1, 5));
        ReviewForge two = findings(39);
        two.open(1);
        Edge.due("the last one on another change", two.find(1, 0, 0, 0, 1, 5), 39);
        Edge.state("those of all changes count", () -> {
            ReviewForge forge = findings(40);
            forge.open(1);
            return forge;
        }, forge -> forge.find(1, 0, 0, 0, 1, 5));
    }

    /** The file 0 of a change with these lines, when one fix is taken. */
    private static String fixed(int[] old, int from, int many, int line) {
        ReviewForge forge = House.opened(old);
        forge.find(0, 0, 0, from, many, line);
        forge.take(1);
        forge.takeFixes(0, 1);
        return House.lines(forge, NONE, 0);
    }

    private static void whatAFixIs() {
        Edge.says("some lines of a file, one behind the other (perhaps none, at a place), are taken out, and one line, or none,"
                + " comes there.");
        int[] old = House.of(1, 2, 3);
        Edge.due("none out, one in, at the beginning", fixed(old, 0, 0, 9), "9 1 2 3");
        Edge.due("none out, one in, at the end", fixed(old, 3, 0, 9), "1 2 3 9");
        Edge.due("none out, none in", fixed(old, 1, 0, NONE), "1 2 3");
        Edge.due("the first one out, none in", fixed(old, 0, 1, NONE), "2 3");
        Edge.due("the last one out, one in", fixed(old, 2, 1, 9), "1 2 9");
        Edge.due("all out, none in", fixed(old, 0, 3, NONE), "");
        Edge.due("all out, one in", fixed(old, 0, 3, 9), "9");
        Edge.due("into an empty file", fixed(House.of(), 0, 0, 399), "399");
        Edge.due("the least line", fixed(old, 1, 1, 0), "1 0 3");
        Edge.due("the tenth line", fixed(House.row(0, 10), 9, 1, 50), "0 1 2 3 4 5 6 7 8 50");
        Edge.due("all of ten", fixed(House.row(0, 10), 0, 10, 50), "50");
    }

    /** Two fixes of one file of six lines; both are taken. */
    private static String both(int from, int many, int from2, int many2) {
        ReviewForge forge = House.opened(1, 2, 3, 4, 5, 6);
        forge.find(0, 0, 0, from, many, 50);
        forge.find(0, 0, 0, from2, many2, 60);
        try {
            forge.takeFixes(0, 3);
        } catch (IllegalStateException touching) {
            return "touch";
        }
        return House.lines(forge, NONE, 0);
    }

    private static void together(String what, int from, int many, int from2, int many2, String due) {
        Edge.due(what, both(from, many, from2, many2), due);
        String other = due.replace("50", "x").replace("60", "50").replace("x", "60");
        Edge.due(what + ", the other way round", both(from2, many2, from, many), other);
    }

    private static void fixesThatTouch() {
        Edge.says("Fixes of the current patch set can be taken together, if no two in one file touch, as hunks do, also if they"
                + " are the same:");
        together("the one begins at the end of the other one", 1, 1, 2, 1, "touch");
        together("a line is between them", 1, 1, 3, 1, "1 50 3 60 5 6");
        together("one is put at the end of the other one", 1, 2, 3, 0, "touch");
        together("one is put one line behind", 1, 2, 4, 0, "1 50 4 60 5 6");
        together("one is put where the other one begins", 1, 2, 1, 0, "touch");
        together("one is put one line ahead", 1, 2, 0, 0, "60 1 50 4 5 6");
        together("both are put at one place", 3, 0, 3, 0, "touch");
        together("both are put, a line between them", 3, 0, 4, 0, "1 2 3 50 4 60 5 6");
        together("one is inside of the other one", 0, 6, 2, 1, "touch");
        together("both take out the same", 2, 1, 2, 1, "touch");
        together("at both ends", 0, 1, 5, 1, "50 2 3 4 5 60");
        ReviewForge same = House.opened(1, 2, 3);
        same.find(0, 0, 0, 1, 1, 9);
        same.find(0, 0, 0, 1, 1, 9);
        same.find(0, 0, 1, 0, 0, 9);
        Edge.due("the one of two that are the same", same.takeFixes(0, 1), 1);
        Edge.due("with one in another file", same.takeFixes(0, 2 + 4), 2);
        Edge.state("two that are the same", () -> {
            ReviewForge forge = House.opened(1, 2, 3);
            forge.find(0, 0, 0, 1, 1, 9);
            forge.find(0, 0, 0, 1, 1, 9);
            return forge;
        }, forge -> forge.takeFixes(0, 3));
        ReviewForge files = House.opened(1);
        for (int file = 0; file < 4; file++) {
            files.find(0, 0, file, 0, 0, 40 + file);
        }
        Edge.due("at the same place of each file", files.takeFixes(0, 15), 4);
        Edge.due("the file 0", House.lines(files, NONE, 0), "40 1");
        Edge.due("the file 3", House.lines(files, NONE, 3), "43");
    }

    private static void whatTheDeskGets() {
        Edge.says("the desk gets the base of the patch set as its base, and its files with these fixes.");
        ReviewForge forge = House.opened(1, 2);
        House.openOn(forge, 2, 3, 8);
        forge.find(1, 0, 0, 0, 1, 9);
        forge.take(1);
        forge.put(1, 0, 77);
        forge.takeFixes(1, 1);
        Edge.due("the base", forge.before(NONE), 2);
        Edge.due("with the fix", House.lines(forge, NONE, 0), "9 2");
        Edge.due("what was on the desk is gone", House.lines(forge, NONE, 1), "");
        Edge.due("a file without fixes", House.lines(forge, NONE, 3), "8");
        Edge.due("the patch set is as it was", House.lines(forge, 3, 0), "1 2");
        forge.take(1);
        Edge.due("no fix at all", forge.takeFixes(1, 0), 0);
        Edge.due("the base as well", forge.before(NONE), 2);
        Edge.due("the files as they are", House.lines(forge, NONE, 0), "1 2");
    }

    private static void findRefused() {
        Edge.says(31, "Returns its number.");
        Edge.due("the last one", findings(39).find(0, 0, 0, 10, 0, NONE), 39);
        Edge.says(31, "Throws `IndexOutOfBoundsException` if there is no such change, patch set or file");
        Edge.index("a change behind", () -> findings(1), forge -> forge.find(1, 0, 0, 0, 0, 0));
        Edge.index("a change ahead", () -> findings(1), forge -> forge.find(-1, 0, 0, 0, 0, 0));
        Edge.index("a set behind", () -> findings(1), forge -> forge.find(0, 1, 0, 0, 0, 0));
        Edge.index("a set ahead", () -> findings(1), forge -> forge.find(0, -1, 0, 0, 0, 0));
        Edge.index("a file behind, and no line", () -> findings(1), forge -> forge.find(0, 0, 4, 0, 0, 400));
        Edge.index("a file ahead, with 40", () -> findings(40), forge -> forge.find(0, 0, -1, 0, 0, 0));
        Edge.says(31, "Throws `IllegalArgumentException` if there are no such lines, or no such place, or line is out of range");
        Edge.allowed("the last line", () -> findings(1), forge -> forge.find(0, 0, 0, 9, 1, 0));
        Edge.argument("over the end", () -> findings(1), forge -> forge.find(0, 0, 0, 9, 2, 0));
        Edge.argument("behind the end", () -> findings(1), forge -> forge.find(0, 0, 0, 10, 1, 0));
        Edge.allowed("all", () -> findings(1), forge -> forge.find(0, 0, 0, 0, 10, 0));
        Edge.argument("one more than all", () -> findings(1), forge -> forge.find(0, 0, 0, 0, 11, 0));
        Edge.argument("fewer than none", () -> findings(1), forge -> forge.find(0, 0, 0, 1, -1, 0));
        Edge.argument("so many that it wraps around", () -> findings(1), forge -> forge.find(0, 0, 0, 1, Integer.MAX_VALUE, 0));
        Edge.argument("both far below", () -> findings(1),
                forge -> forge.find(0, 0, 0, Integer.MIN_VALUE, Integer.MIN_VALUE, 0));
        Edge.allowed("the place at the end", () -> findings(1), forge -> forge.find(0, 0, 0, 10, 0, 0));
        Edge.argument("a place behind that", () -> findings(1), forge -> forge.find(0, 0, 0, 11, 0, 0));
        Edge.argument("a place ahead", () -> findings(1), forge -> forge.find(0, 0, 0, -1, 0, 0));
        Edge.allowed("the place of an empty file", () -> findings(1), forge -> forge.find(0, 0, 3, 0, 0, 0));
        Edge.argument("behind that", () -> findings(1), forge -> forge.find(0, 0, 3, 1, 0, 0));
        Edge.argument("a line of an empty file", () -> findings(1), forge -> forge.find(0, 0, 3, 0, 1, 0));
        Edge.allowed("the greatest line", () -> findings(1), forge -> forge.find(0, 0, 0, 0, 1, 399));
        Edge.argument("one above", () -> findings(1), forge -> forge.find(0, 0, 0, 0, 1, 400));
        Edge.allowed("no line", () -> findings(1), forge -> forge.find(0, 0, 0, 0, 1, NONE));
        Edge.argument("one below that", () -> findings(1), forge -> forge.find(0, 0, 0, 0, 1, -2));
        Edge.argument("also with 40", () -> findings(40), forge -> forge.find(0, 0, 0, 0, 1, 400));
        Edge.says(31, "Throws `IllegalStateException` if there are 40 findings");
        Edge.allowed("39", () -> findings(39), forge -> forge.find(0, 0, 0, 0, 1, 5));
        Edge.state("40", () -> findings(40), forge -> forge.find(0, 0, 0, 0, 1, 5));
    }

    private static void takingRefused() {
        Edge.says(32, "Returns how many fixes are taken.");
        Edge.due("none", findings(3).takeFixes(0, 0), 0);
        Edge.due("one", findings(3).takeFixes(0, 4), 1);
        Edge.says(32, "Throws `IndexOutOfBoundsException` if there is no such change");
        Edge.index("one behind, and below 0", () -> findings(3), forge -> forge.takeFixes(1, -1));
        Edge.index("one ahead", () -> findings(3), forge -> forge.takeFixes(-1, 0));
        Edge.says(32, "Throws `IllegalArgumentException` if there are not so many findings, or fixes is below 0");
        Edge.allowed("the last one", () -> findings(3), forge -> forge.takeFixes(0, 4));
        Edge.argument("one behind", () -> findings(3), forge -> forge.takeFixes(0, 8));
        Edge.argument("one behind and one that touches another", () -> findings(3), forge -> forge.takeFixes(0, 8 + 3));
        Edge.argument("where there are none", () -> findings(0), forge -> forge.takeFixes(0, 1));
        Edge.argument("below 0", () -> findings(40), forge -> forge.takeFixes(0, -1));
        Edge.argument("far below 0", () -> findings(40), forge -> forge.takeFixes(0, Integer.MIN_VALUE));
        Edge.argument("the 31st of 30", () -> findings(30), forge -> forge.takeFixes(0, 1 << 30));
        Edge.allowed("the 31st of 31", () -> findings(31), forge -> forge.takeFixes(0, 1 << 30));
        Edge.allowed("the 31st of 32", () -> findings(32), forge -> forge.takeFixes(0, 1 << 30));
        Edge.allowed("the 31st of 40", () -> findings(40), forge -> forge.takeFixes(0, 1 << 30));
        ReviewForge many = findings(40);
        many.takeFixes(0, 1 << 30);
        Edge.due("it is that one", many.line(NONE, 0, 0), 30);
        Edge.argument("of an older patch set", () -> {
            ReviewForge forge = findings(3);
            forge.upload(0, 0);
            return forge;
        }, forge -> forge.takeFixes(0, 1));
        Edge.argument("of another change", () -> {
            ReviewForge forge = findings(3);
            forge.open(0);
            return forge;
        }, forge -> forge.takeFixes(1, 1));
        Edge.says(32, "Throws `IllegalStateException` if two of them touch, or a file would have more than 10 lines");
        Edge.state("two touch", () -> findings(3), forge -> forge.takeFixes(0, 3));
        Edge.state("all touch", () -> findings(3), forge -> forge.takeFixes(0, 7));
        Edge.state("the last two touch", () -> findings(31), forge -> forge.takeFixes(0, 3 << 29));
        Edge.allowed("10 lines", () -> lines(9, 1), forge -> forge.takeFixes(0, 1));
        Edge.state("11 lines, at the end", () -> lines(9, 2), forge -> forge.takeFixes(0, 3));
        Edge.state("11 lines, of ten", () -> lines(10, 1), forge -> forge.takeFixes(0, 1));
        Edge.allowed("10 lines, as one goes", () -> {
            ReviewForge forge = lines(10, 1);
            forge.find(0, 0, 0, 9, 1, NONE);
            return forge;
        }, forge -> forge.takeFixes(0, 3));
        Edge.allowed("10 lines in each file", () -> House.opened(House.row(0, 10)), forge -> forge.takeFixes(0, 0));
    }

    /** A change with so many lines, and findings that put one more at the places 0, 2, 4 and so on. */
    private static ReviewForge lines(int size, int findings) {
        ReviewForge forge = House.opened(House.row(100, size));
        for (int finding = 0; finding < findings; finding++) {
            forge.find(0, 0, 0, 2 * finding, 0, 5);
        }
        return forge;
    }
}
