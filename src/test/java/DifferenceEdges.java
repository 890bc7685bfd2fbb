/** The boundary cases of differences: promises 24 and 25. */
final class DifferenceEdges {
    private static final int NONE = ReviewForge.NONE;

    private DifferenceEdges() {
    }

    static void run() {
        whatIsLeftOut();
        byWords();
        orderOfSets();
        hunksTold();
        refused();
    }

    /** The difference of two sets on two bases: all are told as the lines of the file 0. */
    private static String difference(boolean isByWords, int[] base, int[] set, int[] newBase, int[] newSet) {
        ReviewForge forge = new ReviewForge();
        House.openOn(forge, 0, 0, base);
        House.openOn(forge, 0, 0, newBase);
        House.openOn(forge, 2, 0, set);
        House.uploadOn(forge, 0, 2, 3, 0, newSet);
        return House.hunks(forge, 2, 0, 1, 0, isByWords);
    }

    private static void whatIsLeftOut() {
        Edge.says("if their bases are not the same, each hunk for which there is one alike among those between both bases"
                + " (one there can leave out several).");
        int[] base = House.of(1, 2, 3, 4);
        int[] newBase = House.of(1, 7, 2, 3, 4);
        Edge.due("one alike", difference(false, base, House.of(1, 2, 3, 5), newBase, House.of(1, 7, 2, 3, 5)), "");
        Edge.due("alike, at another place", difference(false, base, base, newBase, House.of(1, 2, 3, 7, 4)), "");
        Edge.due("one leaves out several", difference(false, base, base, newBase, House.of(7, 1, 2, 7, 3, 4, 7)), "");
        Edge.due("one is its own", difference(false, base, base, newBase, House.of(1, 7, 2, 3, 8, 4)), "3000401");
        Edge.due("one line more is not alike", difference(false, base, base, newBase, House.of(1, 7, 8, 2, 3, 4)), "1000102");
        Edge.due("one line less is not alike", difference(false, base, base, House.of(1, 7, 8, 2, 3, 4), newBase), "1000101");
        Edge.due("another line dropped is not alike",
                difference(false, base, base, House.of(1, 9, 3, 4), House.of(1, 2, 9, 4)), "2010201");
        Edge.due("one line more dropped is not alike",
                difference(false, base, base, House.of(1, 9, 3, 4), House.of(1, 9, 4)), "1020101");
        Edge.due("an indent is not alike", difference(false, base, base, newBase, House.of(1, 107, 2, 3, 4)), "1000101");
        Edge.due("what the base dropped comes back", difference(false, base, base, House.of(1, 2, 3), base), "");
        Edge.due("a hunk of a rebase that was undone", difference(false, base, House.of(1, 2, 3), newBase, base), "3000301");
        Edge.due("bases with the same lines leave out nothing", difference(false, base, base, base, newBase), "1000101");
        ReviewForge forge = House.opened(base);
        House.uploadOn(forge, 0, 0, 0, 0, newBase);
        Edge.due("with one base nothing is left out", House.hunks(forge, 0, 0, 1, 0, false), "1000101");
    }

    private static void byWords() {
        Edge.says("With indents left out, the lines of all files that are compared for this are taken by their words alone.");
        Edge.due("the least and the greatest indent", House.hunks(true, House.of(5, 6), House.of(305, 6)), "");
        Edge.due("they count otherwise", House.hunks(false, House.of(5, 6), House.of(305, 6)), "10001");
        Edge.due("another word of the same indent", House.hunks(true, House.of(105), House.of(106)), "10001");
        Edge.due("the greatest word and the least one", House.hunks(true, House.of(199), House.of(200)), "10001");
        Edge.due("pairs are others by that", House.hunks(true, House.of(101, 2), House.of(2, 1)), "10000 2000101");
        Edge.due("otherwise one is left", House.hunks(false, House.of(101, 2), House.of(2, 1)), "10000 2000101");
        Edge.due("a pair by its word alone", House.hunks(true, House.of(101, 2), House.of(1)), "1010100");
        Edge.due("none otherwise", House.hunks(false, House.of(101, 2), House.of(1)), "20001");
        int[] base = House.of(1, 2);
        Edge.due("of the bases too", difference(true, base, base, House.of(1, 2, 7), House.of(1, 2, 307)), "");
        Edge.due("otherwise not", difference(false, base, base, House.of(1, 2, 7), House.of(1, 2, 307)), "2000201");
        Edge.due("the one base has but another indent", difference(true, base, base, House.of(101, 2), House.of(8, 2)), "10001");
    }

    private static void orderOfSets() {
        Edge.says("The difference of two patch sets of a change in a file are the hunks between both, first the one that is"
                + " told first,");
        ReviewForge forge = House.opened(1, 2);
        House.uploadOn(forge, 0, 0, 0, 0, 1, 2, 3);
        House.uploadOn(forge, 0, 0, 0, 0, 2);
        Edge.due("from the first to the last", House.hunks(forge, 0, 0, 2, 0, false), "10000");
        Edge.due("from the last to the first", House.hunks(forge, 0, 2, 0, 0, false), "1");
        Edge.due("from the second to the last", House.hunks(forge, 0, 1, 2, 0, false), "10000 2010100");
        Edge.due("of one and itself", House.hunks(forge, 0, 1, 1, 0, false), "");
        Edge.due("in a file without lines", House.hunks(forge, 0, 0, 2, 3, false), "");
    }

    private static void hunksTold() {
        Edge.says(24, "Returns how many.");
        ReviewForge forge = House.opened(1, 2, 3, 4, 5, 6, 7, 8, 9, 10);
        House.uploadOn(forge, 0, 0, 0, 0, 11, 2, 13, 4, 15, 6, 17, 8, 19, 10);
        Edge.due("none", forge.hunks(0, 0, 0, 0, false), 0);
        Edge.due("five", forge.hunks(0, 0, 1, 0, false), 5);
        Edge.says(25, "Returns 1000000 times where it begins in the first file, 10000 times how many lines it drops, 100 times"
                + " where it begins in the second one, and how many it adds, added; NONE if there are not so many.");
        Edge.due("the first one", forge.hunkAt(0, 0, 1, 0, false, 0), 10001);
        Edge.due("the last one", forge.hunkAt(0, 0, 1, 0, false, 4), 8010801);
        Edge.due("one behind", forge.hunkAt(0, 0, 1, 0, false, 5), NONE);
        Edge.due("far behind", forge.hunkAt(0, 0, 1, 0, false, Integer.MAX_VALUE), NONE);
        Edge.due("of none", forge.hunkAt(0, 0, 0, 0, false, 0), NONE);
        Edge.due("ten lines for ten", House.hunks(false, House.row(0, 10), House.row(50, 10)), "100010");
        Edge.due("at the ends of ten lines", House.hunks(false, House.row(0, 10), House.of(9, 50)), "90000 10000101");
        Edge.due("at the end of nine lines", House.hunks(false, House.row(0, 9), House.row(0, 10)), "9000901");
        ReviewForge brought = new ReviewForge();
        House.openOn(brought, 0, 0, 1, 2, 3);
        House.openOn(brought, 0, 0, 7, 1, 2, 3);
        House.openOn(brought, 2, 0, 1, 2, 3);
        House.uploadOn(brought, 0, 2, 3, 0, 7, 1, 8, 2, 7, 3, 9);
        Edge.due("those that are left are counted from 0", brought.hunkAt(2, 0, 1, 0, false, 0), 1000201);
        Edge.due("the next one", brought.hunkAt(2, 0, 1, 0, false, 1), 3000601);
        Edge.due("there are two", brought.hunkAt(2, 0, 1, 0, false, 2), NONE);
    }

    private static void refused() {
        Edge.says(24, "Throws `IndexOutOfBoundsException` if there is no such change, patch set, of either, or file");
        Edge.index("a change behind", () -> House.opened(1), forge -> forge.hunks(1, 0, 0, 0, false));
        Edge.index("a change ahead", () -> House.opened(1), forge -> forge.hunks(-1, 0, 0, 0, false));
        Edge.index("the first set behind", () -> House.opened(1), forge -> forge.hunks(0, 1, 0, 0, false));
        Edge.index("the first set ahead", () -> House.opened(1), forge -> forge.hunks(0, -1, 0, 0, false));
        Edge.index("the other set behind", () -> House.opened(1), forge -> forge.hunks(0, 0, 1, 0, false));
        Edge.index("the other set ahead", () -> House.opened(1), forge -> forge.hunks(0, 0, -1, 0, false));
        Edge.index("a file behind", () -> House.opened(1), forge -> forge.hunks(0, 0, 0, 4, true));
        Edge.index("a file ahead", () -> House.opened(1), forge -> forge.hunks(0, 0, 0, -1, true));
        Edge.says(25, "Throws `IndexOutOfBoundsException` if there is no such change, patch set, of either, or file, or hunk is"
                + " below 0");
        Edge.index("a change behind", () -> House.opened(1), forge -> forge.hunkAt(1, 0, 0, 0, false, 0));
        Edge.index("a change ahead", () -> House.opened(1), forge -> forge.hunkAt(-1, 0, 0, 0, false, 0));
        Edge.index("the first set behind", () -> House.opened(1), forge -> forge.hunkAt(0, 1, 0, 0, false, 0));
        Edge.index("the first set ahead", () -> House.opened(1), forge -> forge.hunkAt(0, -1, 0, 0, false, 0));
        Edge.index("the other set behind", () -> House.opened(1), forge -> forge.hunkAt(0, 0, 1, 0, false, 0));
        Edge.index("the other set ahead", () -> House.opened(1), forge -> forge.hunkAt(0, 0, -1, 0, false, 0));
        Edge.index("a file behind", () -> House.opened(1), forge -> forge.hunkAt(0, 0, 0, 4, true, 0));
        Edge.index("a file ahead", () -> House.opened(1), forge -> forge.hunkAt(0, 0, 0, -1, true, 0));
        Edge.index("a hunk below 0", () -> House.opened(1), forge -> forge.hunkAt(0, 0, 0, 0, true, -1));
        Edge.index("far below 0", () -> House.opened(1), forge -> forge.hunkAt(0, 0, 0, 0, true, Integer.MIN_VALUE));
    }
}
