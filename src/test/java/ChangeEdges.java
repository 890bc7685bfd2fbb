/** The boundary cases of changes, patch sets, their kinds and rebasing: promises 11 to 23. */
final class ChangeEdges {
    private static final int NONE = ReviewForge.NONE;
    private static final int OPEN = ReviewForge.OPEN;
    private static final int LANDED = ReviewForge.LANDED;
    private static final int ABANDONED = ReviewForge.ABANDONED;
    private static final int REWORK = ReviewForge.REWORK;
    private static final int TRIVIAL = ReviewForge.TRIVIAL;
    private static final int SAME = ReviewForge.SAME;

    private ChangeEdges() {
    }

    static void run() {
        changesAndSets();
        parents();
        statesFlagsTopics();
        kindsOnOneBase();
        kindsOnAnotherBase();
        newBases();
        opening();
        uploadRefused();
        uploadAboveItself();
        rebaseRefused();
        abandoning();
        restoring();
        flagsAndTopics();
        whatIsTold();
    }

    private static ReviewForge changes(int many) {
        ReviewForge forge = new ReviewForge();
        while (forge.changes() < many) {
            forge.open(0);
        }
        return forge;
    }

    private static ReviewForge commits(int changes, int many) {
        ReviewForge forge = changes(changes);
        while (forge.commits() < many) {
            forge.upload(0, 0);
        }
        return forge;
    }

    private static void changesAndSets() {
        Edge.says("Changes are numbered from 0; there can be 20.");
        Edge.due("the first one", changes(0).open(0), 0);
        Edge.due("the last one", changes(19).open(0), 19);
        Edge.state("one more", () -> changes(20), forge -> forge.open(0));
        Edge.says("A change is of a repository, has an owner, and patch sets, numbered from 0, each of which is a commit, with"
                + " its base ahead of it, and was uploaded by somebody; the latest one is the current one.");
        ReviewForge forge = House.opened(1);
        Edge.due("the first one", forge.commitOf(0, 0), 2);
        House.fill(forge, 0);
        Edge.due("the next one", forge.upload(0, 0), 1);
        Edge.due("the latest one tells what is changed", forge.fewest(0), 0);
        Edge.due("its base", forge.before(3), 0);
        Edge.says("To upload is to make a commit of the files of the desk, of the repository of its base, with that ahead of"
                + " it; it is a patch set from then on.");
        ReviewForge second = new ReviewForge();
        second.take(1);
        House.fill(second, 3, 7);
        second.open(0);
        Edge.due("the repository", second.take(2), 1);
        Edge.due("ahead of it", second.before(2), 1);
        Edge.due("the files", House.lines(second, 2, 3), "7");
        Edge.due("a patch set", second.commitOf(0, 0), 2);
    }

    private static void parents() {
        Edge.says("The parent of a change is the change that has the base of its current patch set as a patch set, if there"
                + " is one.");
        ReviewForge forge = House.opened(1);
        forge.upload(0, 0);
        House.openOn(forge, 0, 0, 1);
        House.openOn(forge, 2, 0, 1);
        House.openOn(forge, 3, 0, 1);
        House.openOn(forge, 5, 0, 1);
        Edge.due("a first commit is none", forge.parentOf(1), NONE);
        Edge.due("an older patch set of it", forge.parentOf(2) / 10, 0);
        Edge.due("the current one", forge.parentOf(3), 0);
        Edge.due("of a child", forge.parentOf(4), 20);
        House.uploadOn(forge, 0, 4, 0, 0, 2);
        Edge.due("the base of the current patch set alone counts", forge.parentOf(4), NONE);
        Edge.says("A change is outdated, if that is not the current patch set of the parent.");
        Edge.due("an older one", forge.parentOf(2), 1);
        Edge.due("the current one", forge.parentOf(3), 0);
        forge.takeSet(0, 0);
        forge.upload(0, 0);
        Edge.due("current no more", forge.parentOf(3), 1);
        House.allReady(forge);
        forge.land(0, 0);
        Edge.due("also when the parent has landed", forge.parentOf(3), 1);
    }

    private static void statesFlagsTopics() {
        Edge.says("A change is OPEN, LANDED or ABANDONED.");
        ReviewForge forge = House.allReady(changes(2));
        Edge.due("at first", forge.stateOf(0), OPEN);
        forge.abandon(0, 0);
        Edge.due("abandoned", forge.stateOf(0), ABANDONED);
        forge.land(0, 1);
        Edge.due("landed", forge.stateOf(1), LANDED);
        Edge.says("It can be in work, and it can be private.");
        ReviewForge flags = changes(1);
        for (int earlier = 0; earlier < 4; earlier++) {
            for (int later = 0; later < 4; later++) {
                flags.setFlags(0, earlier % 2 == 1, earlier > 1);
                Edge.due("from " + earlier + " to " + later, flags.setFlags(0, later % 2 == 1, later > 1), earlier);
                Edge.due("the facts 4 and 5", flags.statements(0) >> 4 & 3, later);
            }
        }
        Edge.says("It can have a topic, 0 to 3.");
        Edge.due("none at first", flags.setTopic(0, 0), NONE);
        Edge.due("the least one", flags.setTopic(0, 3), 0);
        Edge.due("the greatest one", flags.setTopic(0, NONE), 3);
        Edge.argument("one above", () -> changes(1), some -> some.setTopic(0, 4));
        Edge.argument("one below NONE", () -> changes(1), some -> some.setTopic(0, -2));
    }

    private static void kindsOnOneBase() {
        Edge.says("SAME, if its base and its files are those of the patch set before;");
        ReviewForge forge = House.opened(1, 2);
        House.uploadOn(forge, 0, 0, 0, 0, 1, 2);
        Edge.due("the base and the files are", forge.kindOf(0, 1), SAME);
        House.uploadOn(forge, 0, 0, 0, 0, 1, 102);
        Edge.due("an indent is not", forge.kindOf(0, 2), REWORK);
        House.uploadOn(forge, 0, 0, 0, 0, 1, 2);
        Edge.due("as one that is older than the one before", forge.kindOf(0, 3), REWORK);
        forge.put(3, 0, 0);
        forge.upload(0, 0);
        Edge.due("one line more in the last file", forge.kindOf(0, 4), REWORK);
        forge.upload(5, 0);
        Edge.due("by somebody else", forge.kindOf(0, 5), SAME);
        House.uploadOn(forge, 0, 0, 0, 0);
        House.uploadOn(forge, 0, 0, 0, 0);
        Edge.due("with empty files", forge.kindOf(0, 7), SAME);
        House.uploadOn(forge, 0, 0, 0, 0, House.row(0, 10));
        House.uploadOn(forge, 0, 0, 0, 0, House.row(0, 10));
        Edge.due("with ten lines", forge.kindOf(0, 9), SAME);
        House.uploadOn(forge, 0, 0, 0, 0, 0, 1, 2, 3, 4, 5, 6, 7, 8, 99);
        Edge.due("the tenth is another one", forge.kindOf(0, 10), REWORK);
        Edge.says("The first one is REWORK.");
        Edge.due("with changed files", House.opened(1).kindOf(0, 0), REWORK);
        Edge.due("with the files of its base", House.opened().kindOf(0, 0), REWORK);
    }

    /** The kind of a patch set behind one on a base, if it is on another base: each as the file 0, then the file 1. */
    private static int kind(int[][] base, int[][] set, int[][] newBase, int[][] newSet) {
        ReviewForge forge = new ReviewForge();
        int[][][] all = {base, newBase, set};
        for (int at = 0; at < 3; at++) {
            forge.take(at == 2 ? 2 : 0);
            House.fill(forge, 0, all[at][0]);
            House.fill(forge, 1, all[at][1]);
            forge.open(0);
        }
        forge.take(3);
        House.fill(forge, 0, newSet[0]);
        House.fill(forge, 1, newSet[1]);
        forge.upload(0, 2);
        return forge.kindOf(2, 1);
    }

    private static int[][] files(int[] first, int... second) {
        return new int[][] {first, second};
    }

    private static void kindsOnAnotherBase() {
        Edge.says("TRIVIAL, if its base is another one, and in each file the hunks between its base and it are, one by one,"
                + " alike to those between the base of the patch set before and that; otherwise REWORK.");
        int[][] base = files(House.of(1, 2, 3), 4, 5);
        int[][] set = files(House.of(1, 8, 3), 4, 5, 9);
        Edge.due("no hunks at all", kind(base, base, base, base), TRIVIAL);
        Edge.due("an equal base is another one", kind(base, set, base, set), TRIVIAL);
        Edge.due("at another place", kind(base, set, files(House.of(2, 3), 5), files(House.of(8, 3), 5, 9)), TRIVIAL);
        Edge.due("another line dropped", kind(base, set, files(House.of(1, 7, 3), 4, 5), set), REWORK);
        Edge.due("another line added", kind(base, set, base, files(House.of(1, 7, 3), 4, 5, 9)), REWORK);
        Edge.due("one line more added", kind(base, set, base, files(House.of(1, 8, 9, 3), 4, 5, 9)), REWORK);
        Edge.due("one line less added", kind(base, set, base, files(House.of(1, 3), 4, 5, 9)), REWORK);
        Edge.due("one line more dropped", kind(base, set, base, files(House.of(1, 8), 4, 5, 9)), REWORK);
        Edge.due("one hunk more", kind(base, set, base, files(House.of(1, 8, 3, 7), 4, 5, 9)), REWORK);
        Edge.due("one hunk less", kind(base, set, base, files(House.of(1, 8, 3), 4, 5)), REWORK);
        Edge.due("all hunks less", kind(base, set, base, base), REWORK);
        Edge.due("an indent of what is added", kind(base, set, base, files(House.of(1, 108, 3), 4, 5, 9)), REWORK);
        Edge.due("an indent of what is dropped", kind(base, set, files(House.of(1, 102, 3), 4, 5), set), REWORK);
        Edge.due("with the same indents", kind(files(House.of(101, 302)), files(House.of(101, 202)),
                files(House.of(302, 1)), files(House.of(202, 1))), TRIVIAL);
        Edge.due("in another file", kind(base, files(House.of(1, 2, 3, 9), 4, 5), base, files(House.of(1, 2, 3), 4, 5, 9)), REWORK);
        Edge.due("one by one", kind(files(House.of(1, 2, 3)), files(House.of(7, 1, 2, 3, 8)), files(House.of(1, 2, 3)),
                files(House.of(8, 1, 2, 3, 7))), REWORK);
        Edge.due("two side by side are one hunk", kind(files(House.of(1, 2, 3)), files(House.of(7, 2, 8)),
                files(House.of(1, 3)), files(House.of(7, 8))), REWORK);
        Edge.due("ten lines", kind(files(House.row(0, 9)), files(House.row(0, 10)), files(House.row(1, 8)),
                files(House.row(1, 9))), TRIVIAL);
        Edge.due("an empty base", kind(files(House.of()), files(House.of(1, 2)), files(House.of(5, 6)),
                files(House.of(5, 1, 2, 6))), TRIVIAL);
    }

    /** A parent with a child on its patch set; the child is outdated. */
    private static ReviewForge family() {
        ReviewForge forge = House.allReady(House.opened(1));
        House.openOn(forge, 2, 1, 2);
        House.uploadOn(forge, 0, 0, 0, 0, 1, 3);
        return forge;
    }

    private static void newBases() {
        Edge.says("the new base is the current patch set of its parent, if that is OPEN,");
        ReviewForge forge = family();
        forge.rebase(0, 1);
        Edge.due("it is", forge.before(5), 4);
        Edge.due("the merge", House.lines(forge, 5, 0) + "," + House.lines(forge, 5, 1), "1 3,2");
        Edge.says("the commit with which the parent has landed, if it is LANDED,");
        ReviewForge landed = family();
        landed.land(0, 0);
        House.openOn(landed, landed.tip(0), 3, 9);
        landed.land(0, 2);
        Edge.due("the tip is another one by now", landed.tip(0), 7);
        landed.rebase(0, 1);
        Edge.due("it is", landed.before(8), 5);
        ReviewForge forward = family();
        forward.setWay(0, ReviewForge.FORWARD);
        forward.land(0, 0);
        forward.rebase(0, 1);
        Edge.due("by FORWARD it is the patch set", forward.before(5), 4);
        Edge.says("and otherwise the tip of the trunk; without a parent the tip of the trunk.");
        ReviewForge abandoned = family();
        House.openOn(abandoned, 0, 3, 9);
        abandoned.land(0, 2);
        House.uploadOn(abandoned, 0, 0, 0, 0, 1);
        abandoned.rebase(0, 0);
        Edge.due("without a parent", abandoned.before(8), abandoned.tip(0));
        abandoned.abandon(0, 0);
        abandoned.rebase(0, 1);
        Edge.due("an abandoned parent", abandoned.before(9), abandoned.tip(0));
        Edge.due("which is none of it then", abandoned.parentOf(1), NONE);
        Edge.says("To rebase a change is to upload, as a patch set, the merge of its current patch set and of the new base,"
                + " which come from its base:");
        Edge.due("the desk does not matter", rebasedWithDesk(), "1 3,2");
        Edge.says("(Of changes that land without a commit of their own this is the commit of the first change that landed with"
                + " them in their place.)");
        ReviewForge squashed = House.allReady(House.opened(1));
        squashed.setWay(0, ReviewForge.SQUASH);
        for (int child = 0; child < 3; child++) {
            House.openOn(squashed, 2, 1 + child, 5);
        }
        squashed.setTopic(1, 0);
        squashed.setTopic(2, 0);
        squashed.land(0, 1);
        Edge.due("commits of two", squashed.commits(), 8);
        squashed.rebase(0, 3);
        Edge.due("that of the first one", squashed.before(8), 6);
    }

    private static String rebasedWithDesk() {
        ReviewForge forge = family();
        forge.take(1);
        House.fill(forge, 0, 77, 78);
        forge.rebase(0, 1);
        return House.lines(forge, 5, 0) + "," + House.lines(forge, 5, 1);
    }

    private static void opening() {
        Edge.says(11, "Returns its number.");
        Edge.due("the first one", changes(0).open(5), 0);
        Edge.due("the last one", changes(19).open(5), 19);
        Edge.says(11, "Throws `IndexOutOfBoundsException` if there is no such person");
        Edge.index("one behind", () -> changes(1), forge -> forge.open(6));
        Edge.index("one ahead", () -> changes(1), forge -> forge.open(-1));
        Edge.index("also if there are 20 changes", () -> changes(20), forge -> forge.open(6));
        Edge.says(11, "Throws `IllegalStateException` if there are 20 changes, or 80 commits");
        Edge.allowed("19 changes", () -> changes(19), forge -> forge.open(0));
        Edge.state("20 changes", () -> changes(20), forge -> forge.open(0));
        Edge.allowed("79 commits", () -> commits(1, 79), forge -> forge.open(0));
        Edge.state("80 commits", () -> commits(1, 80), forge -> forge.open(0));
        Edge.allowed("19 changes and 79 commits", () -> commits(19, 79), forge -> forge.open(0));
        Edge.state("abandoned ones count", () -> {
            ReviewForge forge = changes(20);
            forge.advance(30);
            return forge;
        }, forge -> forge.open(0));
    }

    /** The change 0 of the person 1, which is private; the person 2 is its reviewer. */
    private static ReviewForge hidden() {
        ReviewForge forge = House.with(1);
        forge.open(1);
        forge.addReviewer(2, 0);
        forge.setFlags(0, false, true);
        return forge;
    }

    private static ReviewForge ended(int state) {
        ReviewForge forge = House.allReady(changes(1));
        if (state == LANDED) {
            forge.land(0, 0);
        } else {
            forge.abandon(0, 0);
        }
        return forge;
    }

    private static void uploadRefused() {
        Edge.says(12, "Returns the number of the patch set.");
        Edge.due("the second one is 1", changes(1).upload(0, 0), 1);
        Edge.due("the last one", commits(1, 79).upload(0, 0), 77);
        Edge.says(12, "Throws `IndexOutOfBoundsException` if there is no such person or change");
        Edge.index("a person behind", () -> changes(1), forge -> forge.upload(6, 0));
        Edge.index("a person ahead", () -> changes(1), forge -> forge.upload(-1, 0));
        Edge.index("a change behind", () -> changes(1), forge -> forge.upload(0, 1));
        Edge.index("a change ahead", () -> changes(1), forge -> forge.upload(0, -1));
        Edge.index("also with 80 commits", () -> commits(1, 80), forge -> forge.upload(0, 1));
        Edge.says(12, "Throws `IllegalStateException` if the change is not OPEN,");
        Edge.state("abandoned", () -> ended(ABANDONED), forge -> forge.upload(0, 0));
        Edge.state("landed", () -> ended(LANDED), forge -> forge.upload(0, 0));
        Edge.says(12, "the base of the desk is of another repository,");
        Edge.state("it is", () -> {
            ReviewForge forge = changes(1);
            forge.take(1);
            return forge;
        }, forge -> forge.upload(0, 0));
        Edge.state("a patch set of another repository", () -> {
            ReviewForge forge = changes(1);
            forge.take(1);
            forge.open(0);
            forge.take(3);
            return forge;
        }, forge -> forge.upload(0, 0));
        Edge.says(12, "the person cannot see it,");
        Edge.state("somebody else", ChangeEdges::hidden, forge -> forge.upload(0, 0));
        Edge.allowed("its owner", ChangeEdges::hidden, forge -> forge.upload(1, 0));
        Edge.allowed("a reviewer", ChangeEdges::hidden, forge -> forge.upload(2, 0));
        Edge.says(12, "or there are 80 commits");
        Edge.allowed("79", () -> commits(1, 79), forge -> forge.upload(0, 0));
        Edge.state("80", () -> commits(1, 80), forge -> forge.upload(0, 0));
    }

    /** The changes 0, 1 and 2 are a chain; the change 0 has two patch sets, of which the older one has the child. */
    private static ReviewForge chain() {
        ReviewForge forge = changes(1);
        forge.take(2);
        forge.open(0);
        forge.take(3);
        forge.open(0);
        forge.take(0);
        forge.upload(0, 0);
        forge.open(0);
        return forge;
    }

    private static ReviewForge chainOn(int commit) {
        ReviewForge forge = chain();
        forge.take(commit);
        return forge;
    }

    private static void uploadAboveItself() {
        Edge.says(12, "or a patch set of the change, or of one that has it as its parent, or the parent of its parent, and so on,");
        Edge.allowed("a first commit", () -> chainOn(0), forge -> forge.upload(0, 0));
        Edge.state("an older patch set of the change", () -> chainOn(2), forge -> forge.upload(0, 0));
        Edge.state("the current one", () -> chainOn(5), forge -> forge.upload(0, 0));
        Edge.state("of its child", () -> chainOn(3), forge -> forge.upload(0, 0));
        Edge.state("of the child of its child", () -> chainOn(4), forge -> forge.upload(0, 0));
        Edge.allowed("of one that is not below it", () -> chainOn(6), forge -> forge.upload(0, 0));
        Edge.state("the child on itself", () -> chainOn(3), forge -> forge.upload(0, 1));
        Edge.state("the child on its own child", () -> chainOn(4), forge -> forge.upload(0, 1));
        Edge.allowed("the child on its parent", () -> chainOn(5), forge -> forge.upload(0, 1));
        Edge.allowed("the last one on the first one", () -> chainOn(2), forge -> forge.upload(0, 2));
        Edge.state("the desk took a patch set whose base is one of it", () -> {
            ReviewForge forge = chain();
            forge.takeSet(1, 0);
            return forge;
        }, forge -> forge.upload(0, 0));
        Edge.allowed("of what was its child, which has another base by now", () -> {
            ReviewForge forge = chainOn(0);
            forge.upload(0, 1);
            forge.take(3);
            return forge;
        }, forge -> forge.upload(0, 0));
        Edge.state("the child is abandoned", () -> {
            ReviewForge forge = chainOn(3);
            forge.abandon(0, 1);
            return forge;
        }, forge -> forge.upload(0, 0));
        Edge.state("the last one of twenty", () -> twenty(21), forge -> forge.upload(0, 0));
        Edge.state("the second one on the last one", () -> twenty(21), forge -> forge.upload(0, 1));
    }

    /** Twenty changes, each the parent of the next one; the desk is on this commit. */
    private static ReviewForge twenty(int commit) {
        ReviewForge forge = new ReviewForge();
        for (int change = 0; change < 20; change++) {
            forge.open(0);
            forge.take(2 + change);
        }
        forge.take(commit);
        return forge;
    }

    /** The change 0 is to be rebased on a tip that has gone on, with so many commits. */
    private static ReviewForge behindTheTip(int commits, int... lines) {
        ReviewForge forge = House.allReady(House.opened(1));
        House.openOn(forge, 0, 0, lines);
        forge.land(0, 1);
        while (forge.commits() < commits) {
            House.uploadOn(forge, 0, 0, 0, 0, 1);
        }
        return forge;
    }

    private static ReviewForge behindTheTip() {
        return behindTheTip(0);
    }

    private static void rebaseRefused() {
        Edge.says(13, "Returns the number of the patch set.");
        Edge.due("the second one is 1", behindTheTip().rebase(0, 0), 1);
        Edge.says(13, "Throws `IndexOutOfBoundsException` if there is no such person or change");
        Edge.index("a person behind", ChangeEdges::behindTheTip, forge -> forge.rebase(6, 0));
        Edge.index("a person ahead", ChangeEdges::behindTheTip, forge -> forge.rebase(-1, 0));
        Edge.index("a change behind", ChangeEdges::behindTheTip, forge -> forge.rebase(0, 2));
        Edge.index("a change ahead", ChangeEdges::behindTheTip, forge -> forge.rebase(0, -1));
        Edge.index("also with 80 commits", () -> behindTheTip(80), forge -> forge.rebase(6, 0));
        Edge.says(13, "Throws `IllegalStateException` if the change is not OPEN,");
        Edge.state("landed", ChangeEdges::behindTheTip, forge -> forge.rebase(0, 1));
        Edge.state("abandoned", () -> {
            ReviewForge forge = behindTheTip();
            forge.abandon(0, 0);
            return forge;
        }, forge -> forge.rebase(0, 0));
        Edge.says(13, "its base is the new one already,");
        Edge.state("the tip", () -> House.opened(1), forge -> forge.rebase(0, 0));
        Edge.state("the current patch set of the parent", () -> {
            ReviewForge forge = family();
            forge.rebase(0, 1);
            return forge;
        }, forge -> forge.rebase(0, 1));
        Edge.state("the commit with which the parent has landed", () -> {
            ReviewForge forge = family();
            forge.setWay(0, ReviewForge.FORWARD);
            forge.land(0, 0);
            forge.rebase(0, 1);
            return forge;
        }, forge -> forge.rebase(0, 1));
        Edge.state("the tip, by another rebase", () -> {
            ReviewForge forge = behindTheTip();
            forge.rebase(0, 0);
            return forge;
        }, forge -> forge.rebase(0, 0));
        Edge.says(13, "there is a conflict,");
        Edge.state("another line at the place", () -> behindTheTip(0, 2), forge -> forge.rebase(0, 0));
        Edge.allowed("the same line", () -> behindTheTip(0, 1), forge -> forge.rebase(0, 0));
        Edge.allowed("10 lines", () -> longFiles(5), forge -> forge.rebase(0, 1));
        Edge.state("11 lines", () -> longFiles(6), forge -> forge.rebase(0, 1));
        Edge.says(13, "the person cannot see it, or there are 80 commits");
        Edge.allowed("its owner, 79 commits", () -> hide(behindTheTip(79)), forge -> forge.rebase(0, 0));
        Edge.allowed("a reviewer, 79 commits", () -> hide(behindTheTip(79)), forge -> forge.rebase(2, 0));
        Edge.state("somebody else, 79 commits", () -> hide(behindTheTip(79)), forge -> forge.rebase(1, 0));
        Edge.state("80 commits", () -> behindTheTip(80), forge -> forge.rebase(0, 0));
    }

    private static ReviewForge hide(ReviewForge forge) {
        forge.addReviewer(2, 0);
        forge.setFlags(0, false, true);
        return forge;
    }

    /** The parent has one line, and four more at the end by now; the child has so many at the beginning. */
    private static ReviewForge longFiles(int more) {
        ReviewForge forge = House.opened(1);
        forge.take(2);
        for (int many = 0; many < more; many++) {
            forge.put(0, 0, 20 + many);
        }
        forge.open(0);
        House.uploadOn(forge, 0, 0, 0, 0, 1, 11, 12, 13, 14);
        return forge;
    }

    private static void abandoning() {
        Edge.says(14, "Returns how many changes that are OPEN have it as their parent.");
        Edge.due("none", changes(1).abandon(0, 0), 0);
        ReviewForge forge = chain();
        forge.take(5);
        forge.open(0);
        Edge.due("a child, also an outdated one, but not the child of a child", forge.abandon(0, 0), 2);
        forge.restore(0);
        forge.abandon(0, 4);
        Edge.due("not an abandoned one", forge.abandon(0, 0), 1);
        ReviewForge up = changes(2);
        up.take(3);
        up.upload(0, 0);
        Edge.due("a child with a lower number", up.abandon(0, 1), 1);
        ReviewForge all = changes(1);
        for (int child = 1; child < 20; child++) {
            all.take(2);
            all.open(0);
        }
        Edge.due("all others", all.abandon(0, 0), 19);
        Edge.says(14, "Throws `IndexOutOfBoundsException` if there is no such person or change");
        Edge.index("a person behind", () -> changes(1), some -> some.abandon(6, 0));
        Edge.index("a person ahead", () -> changes(1), some -> some.abandon(-1, 0));
        Edge.index("a change behind", () -> changes(1), some -> some.abandon(0, 1));
        Edge.index("a change ahead", () -> changes(1), some -> some.abandon(0, -1));
        Edge.index("a person behind, abandoned", () -> ended(ABANDONED), some -> some.abandon(6, 0));
        Edge.says(14, "Throws `IllegalStateException` if it is not OPEN, or the person cannot see it");
        Edge.state("abandoned", () -> ended(ABANDONED), some -> some.abandon(0, 0));
        Edge.state("landed", () -> ended(LANDED), some -> some.abandon(0, 0));
        Edge.state("not seen", ChangeEdges::hidden, some -> some.abandon(0, 0));
        Edge.allowed("its owner", ChangeEdges::hidden, some -> some.abandon(1, 0));
        Edge.allowed("a reviewer", ChangeEdges::hidden, some -> some.abandon(2, 0));
    }

    private static void restoring() {
        Edge.says(15, "Returns its current patch set.");
        Edge.due("the only one", ended(ABANDONED).restore(0), 0);
        ReviewForge forge = changes(1);
        forge.upload(0, 0);
        forge.abandon(0, 0);
        Edge.due("the second one", forge.restore(0), 1);
        Edge.due("it is OPEN", forge.stateOf(0), OPEN);
        Edge.says(15, "Throws `IndexOutOfBoundsException` if there is no such change");
        Edge.index("one behind", () -> ended(ABANDONED), some -> some.restore(1));
        Edge.index("one ahead", () -> ended(ABANDONED), some -> some.restore(-1));
        Edge.says(15, "Throws `IllegalStateException` if it is not ABANDONED");
        Edge.state("open", () -> changes(1), some -> some.restore(0));
        Edge.state("landed", () -> ended(LANDED), some -> some.restore(0));
        Edge.allowed("abandoned by the days", () -> {
            ReviewForge old = changes(1);
            old.advance(30);
            return old;
        }, some -> some.restore(0));
    }

    private static void flagsAndTopics() {
        Edge.says(16, "Returns 1 if it was in work, 2 if it was private, added.");
        ReviewForge forge = changes(1);
        Edge.due("none", forge.setFlags(0, true, true), 0);
        Edge.due("both", forge.setFlags(0, true, false), 3);
        Edge.due("in work", forge.setFlags(0, false, true), 1);
        Edge.due("private", forge.setFlags(0, false, false), 2);
        Edge.says(16, "Throws `IndexOutOfBoundsException` if there is no such change");
        Edge.index("one behind", () -> changes(1), some -> some.setFlags(1, true, true));
        Edge.index("one ahead", () -> changes(1), some -> some.setFlags(-1, true, true));
        Edge.says(16, "Throws `IllegalStateException` if it is not OPEN");
        Edge.state("abandoned", () -> ended(ABANDONED), some -> some.setFlags(0, true, true));
        Edge.state("landed", () -> ended(LANDED), some -> some.setFlags(0, true, true));
        Edge.says(17, "Returns the topic before.");
        Edge.due("none", forge.setTopic(0, 2), NONE);
        Edge.due("2", forge.setTopic(0, 2), 2);
        Edge.says(17, "Throws `IndexOutOfBoundsException` if there is no such change");
        Edge.index("one behind, and no topic", () -> changes(1), some -> some.setTopic(1, 4));
        Edge.index("one ahead", () -> changes(1), some -> some.setTopic(-1, 0));
        Edge.says(17, "Throws `IllegalArgumentException` if topic is out of range");
        Edge.argument("one above", () -> changes(1), some -> some.setTopic(0, 4));
        Edge.argument("one below NONE", () -> changes(1), some -> some.setTopic(0, -2));
        Edge.allowed("of a landed one", () -> ended(LANDED), some -> some.setTopic(0, 3));
    }

    private static void whatIsTold() {
        Edge.says(19, "Returns OPEN, LANDED or ABANDONED.");
        Edge.due("open", changes(1).stateOf(0), OPEN);
        Edge.due("landed", ended(LANDED).stateOf(0), LANDED);
        Edge.due("abandoned", ended(ABANDONED).stateOf(0), ABANDONED);
        Edge.says(19, "Throws `IndexOutOfBoundsException` if there is no such change");
        Edge.index("one behind", () -> changes(1), forge -> forge.stateOf(1));
        Edge.index("one ahead", () -> changes(1), forge -> forge.stateOf(-1));
        Edge.says(20, "Returns how many.");
        Edge.due("at first", changes(1).sets(0), 1);
        Edge.due("as many as there can be", commits(1, 80).sets(0), 78);
        Edge.says(20, "Throws `IndexOutOfBoundsException` if there is no such change");
        Edge.index("one behind", () -> changes(1), forge -> forge.sets(1));
        Edge.index("one ahead", () -> changes(1), forge -> forge.sets(-1));
        Edge.says(21, "Returns the commit.");
        Edge.due("the last one there can be", commits(1, 80).commitOf(0, 77), 79);
        Edge.says(21, "Throws `IndexOutOfBoundsException` if there is no such change or patch set");
        Edge.index("a set behind", () -> changes(1), forge -> forge.commitOf(0, 1));
        Edge.index("a set ahead", () -> changes(1), forge -> forge.commitOf(0, -1));
        Edge.index("a change behind", () -> changes(1), forge -> forge.commitOf(1, 0));
        Edge.index("a change ahead", () -> changes(1), forge -> forge.commitOf(-1, 0));
        Edge.says(22, "Returns REWORK, TRIVIAL or SAME.");
        Edge.due("the last one there can be", commits(1, 80).kindOf(0, 77), SAME);
        Edge.says(22, "Throws `IndexOutOfBoundsException` if there is no such change or patch set");
        Edge.index("a set behind", () -> changes(1), forge -> forge.kindOf(0, 1));
        Edge.index("a set ahead", () -> changes(1), forge -> forge.kindOf(0, -1));
        Edge.index("a change behind", () -> changes(1), forge -> forge.kindOf(1, 0));
        Edge.index("a change ahead", () -> changes(1), forge -> forge.kindOf(-1, 0));
        Edge.says(23, "Returns 10 times the parent, and 1 if it is outdated, added; NONE without a parent.");
        Edge.due("without one", changes(1).parentOf(0), NONE);
        Edge.due("the change 0 is one", chain().parentOf(1), 1);
        Edge.due("the change 1", chain().parentOf(2), 10);
        Edge.due("the change 18", twenty(0).parentOf(19), 180);
        Edge.says(23, "Throws `IndexOutOfBoundsException` if there is no such change");
        Edge.index("one behind", () -> changes(1), forge -> forge.parentOf(1));
        Edge.index("one ahead", () -> changes(1), forge -> forge.parentOf(-1));
        Edge.says(6, "Returns the number of commits.");
        Edge.due("the first ones", changes(0).commits(), 2);
        Edge.due("all", commits(20, 80).commits(), 80);
        Edge.says(18, "Returns the number of changes.");
        Edge.due("none", changes(0).changes(), 0);
        Edge.due("all", changes(20).changes(), 20);
    }
}
