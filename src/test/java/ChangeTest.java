/** Promises 11 to 23: changes and their patch sets. */
public final class ChangeTest {
    private static final int NONE = ReviewForge.NONE;
    private static final int OPEN = ReviewForge.OPEN;
    private static final int LANDED = ReviewForge.LANDED;
    private static final int ABANDONED = ReviewForge.ABANDONED;
    private static final int REWORK = ReviewForge.REWORK;
    private static final int TRIVIAL = ReviewForge.TRIVIAL;
    private static final int SAME = ReviewForge.SAME;

    public static void main(String[] args) {
        opening();
        twentyChanges();
        eightyCommits();
        uploading();
        uploadingRefused();
        noChangeAboveItself();
        kinds();
        kindsWithEqualBases();
        kindsByWhatIsDropped();
        rebasing();
        rebasingOnTheLanded();
        rebasingRefused();
        abandoningAndRestoring();
        flags();
        topics();
        privateChanges();
        wrongNumbers();
        Expect.finish("ChangeTest");
    }

    private static void opening() {
        ReviewForge forge = new ReviewForge();
        forge.put(0, 0, 5);
        Expect.due(11, "open(3)", forge.open(3), 0);
        Expect.due(11, "open(4)", forge.open(4), 1);
        Expect.due(18, "changes()", forge.changes(), 2);
        Expect.due(19, "stateOf(1)", forge.stateOf(1), OPEN);
        Expect.due(20, "sets(1)", forge.sets(1), 1);
        Expect.due(21, "commitOf(0, 0)", forge.commitOf(0, 0), 2);
        Expect.due(21, "commitOf(1, 0)", forge.commitOf(1, 0), 3);
        Expect.due(22, "kindOf(0, 0)", forge.kindOf(0, 0), REWORK);
        Expect.due(23, "parentOf(1)", forge.parentOf(1), NONE);
        Expect.due(11, "the files are those of the desk", forge.line(3, 0, 0), 5);
        Expect.due(11, "the desk is as before", forge.line(NONE, 0, 0), 5);
        Expect.due(11, "its base too", forge.before(NONE), 0);
        Expect.due(16, "it is neither in work nor private", forge.setFlags(0, false, false), 0);
        Expect.due(17, "it has no topic", forge.setTopic(0, NONE), NONE);
        Expect.due(49, "it has no reviewers", forge.reviewers(0), 0);
        Expect.due(50, "it is nobody's turn", forge.whoseTurn(0), 0);
        Expect.index(11, forge, "open(6)", () -> forge.open(6));
        Expect.index(11, forge, "open(-1)", () -> forge.open(-1));
    }

    private static void twentyChanges() {
        ReviewForge forge = new ReviewForge();
        for (int change = 0; change < 20; change++) {
            Expect.due(11, "open", forge.open(change % 6), change);
        }
        Expect.state(11, forge, "the 21st change", () -> forge.open(0));
        Expect.index(11, forge, "the 21st change of nobody", () -> forge.open(6));
        Expect.due(18, "changes()", forge.changes(), 20);
    }

    private static void eightyCommits() {
        ReviewForge forge = new ReviewForge();
        forge.open(0);
        forge.take(2);
        forge.open(1);
        for (int commit = 4; commit < 80; commit++) {
            forge.take(0);
            Expect.due(12, "upload", forge.upload(0, 0), commit - 3);
        }
        Expect.due(6, "commits()", forge.commits(), 80);
        Expect.due(20, "sets(0)", forge.sets(0), 77);
        Expect.state(11, forge, "open with 80 commits", () -> forge.open(0));
        Expect.state(12, forge, "upload with 80 commits", () -> forge.upload(0, 0));
        Expect.state(13, forge, "rebase with 80 commits", () -> forge.rebase(1, 1));
        Expect.due(21, "commitOf(0, 76)", forge.commitOf(0, 76), 79);
        forge.find(0, 76, 3, 0, 0, 55);
        Expect.due(32, "takeFixes with 80 commits", forge.takeFixes(0, 1), 1);
        Expect.due(7, "the last commit is as before", forge.line(79, 3, 0), NONE);
        Expect.due(7, "the desk has the line", forge.line(NONE, 3, 0), 55);
        forge.addRule(15, 0, 0);
        Expect.due(47, "no room for what lands", forge.land(0, 0), NONE);
        Expect.due(19, "stateOf(0)", forge.stateOf(0), OPEN);
        forge.setWay(0, ReviewForge.FORWARD);
        Expect.due(47, "FORWARD makes no commit", forge.land(0, 0), 1);
    }

    private static void uploading() {
        ReviewForge forge = new ReviewForge();
        forge.put(0, 0, 5);
        forge.open(0);
        forge.put(0, 1, 6);
        Expect.due(12, "upload by somebody else", forge.upload(3, 0), 1);
        Expect.due(20, "sets(0)", forge.sets(0), 2);
        Expect.due(21, "commitOf(0, 1)", forge.commitOf(0, 1), 3);
        Expect.due(21, "commitOf(0, 0)", forge.commitOf(0, 0), 2);
        Expect.due(12, "its files", forge.line(3, 0, 1), 6);
        Expect.due(12, "those of the first one", forge.line(2, 0, 1), NONE);
        Expect.due(12, "its base", forge.before(3), 0);
        Expect.due(12, "who uploads is no reviewer by that", forge.reviewers(0), 0);
        forge.take(2);
        Expect.due(11, "a child on an older patch set", forge.open(1), 1);
        Expect.due(23, "it is outdated", forge.parentOf(1), 1);
        forge.take(3);
        forge.upload(1, 1);
        Expect.due(23, "now it is not", forge.parentOf(1), 0);
        forge.take(5);
        forge.open(2);
        Expect.due(23, "parentOf(2)", forge.parentOf(2), 10);
        forge.take(0);
        forge.upload(2, 2);
        Expect.due(23, "without a parent again", forge.parentOf(2), NONE);
    }

    private static void uploadingRefused() {
        ReviewForge forge = new ReviewForge();
        forge.put(0, 0, 5);
        forge.open(0);
        forge.take(1);
        Expect.state(12, forge, "upload from another repository", () -> forge.upload(0, 0));
        forge.take(0);
        Expect.index(12, forge, "upload(6, 0)", () -> forge.upload(6, 0));
        Expect.index(12, forge, "upload(-1, 0)", () -> forge.upload(-1, 0));
        Expect.index(12, forge, "upload(0, 1)", () -> forge.upload(0, 1));
        Expect.index(12, forge, "upload(0, -1)", () -> forge.upload(0, -1));
        forge.abandon(0, 0);
        Expect.state(12, forge, "upload to an abandoned change", () -> forge.upload(0, 0));
        forge.restore(0);
        forge.setFlags(0, false, true);
        Expect.state(12, forge, "upload by who cannot see it", () -> forge.upload(1, 0));
        forge.addReviewer(1, 0);
        Expect.due(12, "upload by a reviewer of a private change", forge.upload(1, 0), 1);
        forge.addRule(15, 0, 0);
        forge.land(0, 0);
        Expect.state(12, forge, "upload to a landed change", () -> forge.upload(0, 0));
    }

    private static void noChangeAboveItself() {
        ReviewForge forge = new ReviewForge();
        forge.open(0);
        forge.put(0, 0, 1);
        forge.upload(0, 0);
        forge.take(3);
        forge.open(1);
        forge.take(4);
        forge.open(2);
        forge.take(0);
        forge.open(3);
        forge.take(2);
        Expect.state(12, forge, "a patch set of its own, an older one", () -> forge.upload(0, 0));
        forge.take(3);
        Expect.state(12, forge, "a patch set of its own", () -> forge.upload(0, 0));
        forge.take(4);
        Expect.state(12, forge, "of its child", () -> forge.upload(0, 0));
        forge.take(5);
        Expect.state(12, forge, "of the child of its child", () -> forge.upload(0, 0));
        Expect.due(12, "of another one's child", forge.upload(3, 3), 1);
        Expect.due(23, "parentOf(3)", forge.parentOf(3), 20);
        forge.take(0);
        forge.upload(1, 1);
        forge.take(4);
        Expect.due(12, "the child has another base by now", forge.upload(0, 0), 2);
        Expect.due(23, "parentOf(0)", forge.parentOf(0), 11);
        Expect.due(23, "parentOf(2)", forge.parentOf(2), 11);
    }

    private static void kinds() {
        ReviewForge forge = new ReviewForge();
        forge.put(0, 0, 1);
        forge.put(0, 1, 2);
        forge.open(0);
        forge.upload(0, 0);
        Expect.due(22, "the same base and files", forge.kindOf(0, 1), SAME);
        forge.put(3, 0, 9);
        forge.upload(0, 0);
        Expect.due(22, "another file", forge.kindOf(0, 2), REWORK);
        forge.takeSet(0, 1);
        forge.put(0, 2, 3);
        forge.put(3, 0, 4);
        forge.open(1);
        forge.take(5);
        forge.put(0, 0, 7);
        forge.open(2);
        forge.take(4);
        forge.put(0, 0, 7);
        forge.cut(3, 0);
        Expect.due(22, "commits so far", forge.commits(), 7);
        forge.upload(2, 2);
        Expect.due(22, "another base, but another hunk too", forge.kindOf(2, 1), REWORK);
        forge.take(4);
        forge.put(0, 0, 7);
        forge.upload(2, 2);
        Expect.due(22, "the base of the one before", forge.kindOf(2, 2), REWORK);
        forge.take(3);
        forge.put(0, 0, 7);
        forge.upload(2, 2);
        Expect.due(22, "another base, the same hunk", forge.kindOf(2, 3), TRIVIAL);
        forge.take(0);
        forge.put(0, 0, 8);
        forge.upload(2, 2);
        Expect.due(22, "another line", forge.kindOf(2, 4), REWORK);
    }

    /** A base is another one also if its files are the same; and hunks are alike wherever they begin. */
    private static void kindsWithEqualBases() {
        ReviewForge forge = new ReviewForge();
        forge.open(0);
        forge.take(2);
        forge.put(1, 0, 30);
        forge.open(1);
        forge.take(0);
        forge.put(1, 0, 30);
        forge.upload(1, 1);
        Expect.due(22, "an equal base is another one", forge.kindOf(1, 1), TRIVIAL);
        forge.take(0);
        forge.put(1, 0, 31);
        forge.open(0);
        forge.take(5);
        forge.put(1, 1, 30);
        forge.upload(1, 1);
        Expect.due(22, "the hunk is at another place", forge.kindOf(1, 2), TRIVIAL);
        forge.take(0);
        forge.put(1, 0, 30);
        forge.put(2, 0, 30);
        forge.upload(1, 1);
        Expect.due(22, "one hunk more", forge.kindOf(1, 3), REWORK);
    }

    /** As many lines dropped and added, but not the same ones. */
    private static void kindsByWhatIsDropped() {
        int[][] dropped = {{1, 2}, {1, 3}, {4, 2}};
        for (int other = 0; other < 3; other++) {
            for (int added = 5; added < 7; added++) {
                ReviewForge forge = new ReviewForge();
                for (int place = 0; place < 2; place++) {
                    forge.put(0, place, dropped[0][place]);
                }
                forge.put(0, 2, 9);
                forge.open(0);
                forge.take(0);
                for (int place = 0; place < 2; place++) {
                    forge.put(0, place, dropped[other][place]);
                }
                forge.put(0, 2, 9);
                forge.open(0);
                forge.take(2);
                forge.cut(0, 0);
                forge.cut(0, 0);
                forge.put(0, 0, 5);
                forge.open(0);
                forge.take(3);
                forge.cut(0, 0);
                forge.cut(0, 0);
                forge.put(0, 0, added);
                forge.upload(0, 2);
                boolean isAlike = other == 0 && added == 5;
                Expect.due(22, "dropped " + other + ", added " + added, forge.kindOf(2, 1), isAlike ? TRIVIAL : REWORK);
            }
        }
    }

    private static void rebasing() {
        ReviewForge forge = new ReviewForge();
        forge.put(0, 0, 1);
        forge.put(0, 1, 2);
        forge.open(0);
        forge.take(2);
        forge.put(0, 2, 9);
        forge.open(1);
        Expect.state(13, forge, "the base is the new one already", () -> forge.rebase(1, 1));
        forge.takeSet(0, 0);
        forge.put(0, 0, 4);
        forge.put(2, 0, 6);
        forge.upload(0, 0);
        Expect.due(23, "outdated", forge.parentOf(1), 1);
        forge.take(1);
        Expect.due(13, "rebase(2, 1)", forge.rebase(2, 1), 1);
        Expect.due(13, "the desk is as before", forge.before(NONE), 1);
        Expect.due(13, "the new base", forge.before(5), 4);
        Expect.due(23, "not outdated any more", forge.parentOf(1), 0);
        Expect.due(13, "line 0", forge.line(5, 0, 0), 4);
        Expect.due(13, "line 1", forge.line(5, 0, 1), 1);
        Expect.due(13, "line 2", forge.line(5, 0, 2), 2);
        Expect.due(13, "line 3", forge.line(5, 0, 3), 9);
        Expect.due(13, "line 4", forge.line(5, 0, 4), NONE);
        Expect.due(13, "another file", forge.line(5, 2, 0), 6);
        Expect.due(22, "kindOf(1, 1)", forge.kindOf(1, 1), TRIVIAL);
        forge.abandon(0, 0);
        Expect.state(13, forge, "without the parent's lines there is a conflict", () -> forge.rebase(2, 1));
    }

    private static void rebasingOnTheLanded() {
        ReviewForge forge = new ReviewForge();
        forge.addRule(15, 0, 0);
        forge.put(0, 0, 1);
        forge.put(0, 1, 2);
        forge.put(0, 2, 3);
        forge.open(0);
        forge.land(0, 0);
        Expect.due(9, "tip(0)", forge.tip(0), 3);
        forge.take(3);
        forge.put(0, 3, 4);
        forge.open(1);
        forge.take(4);
        forge.put(0, 0, 8);
        forge.open(2);
        forge.land(1, 1);
        forge.take(6);
        forge.put(2, 0, 9);
        forge.open(3);
        forge.land(3, 3);
        Expect.due(9, "tip(0)", forge.tip(0), 8);
        Expect.due(13, "rebase(2, 2)", forge.rebase(2, 2), 1);
        Expect.due(13, "on the commit with which the parent landed", forge.before(9), 6);
        Expect.due(23, "which is no patch set", forge.parentOf(2), NONE);
        Expect.due(13, "rebase(2, 2)", forge.rebase(2, 2), 2);
        Expect.due(13, "now on the tip", forge.before(10), 8);
        Expect.due(13, "with its line", forge.line(10, 2, 0), 9);
        Expect.state(13, forge, "and no more", () -> forge.rebase(2, 2));
        forge.take(5);
        forge.open(4);
        forge.takeSet(4, 0);
        forge.abandon(2, 2);
        Expect.due(13, "an abandoned parent: on the tip", forge.rebase(4, 4), 1);
        Expect.due(13, "on the tip", forge.before(12), 8);
    }

    private static void rebasingRefused() {
        ReviewForge forge = new ReviewForge();
        forge.addRule(15, 0, 0);
        forge.put(0, 0, 1);
        forge.open(0);
        forge.take(0);
        forge.put(0, 0, 2);
        forge.open(1);
        forge.take(0);
        for (int many = 0; many < 10; many++) {
            forge.put(1, many, 50 + many);
        }
        forge.open(2);
        forge.take(0);
        forge.put(0, 0, 1);
        forge.open(3);
        forge.land(0, 0);
        Expect.state(13, forge, "a conflict", () -> forge.rebase(1, 1));
        Expect.due(13, "the same hunk is none", forge.rebase(3, 3), 1);
        Expect.due(13, "it is done once", forge.line(forge.commitOf(3, 1), 0, 1), NONE);
        Expect.due(22, "nothing is left of it", forge.kindOf(3, 1), REWORK);
        Expect.state(13, forge, "a landed change", () -> forge.rebase(0, 0));
        Expect.index(13, forge, "rebase(6, 1)", () -> forge.rebase(6, 1));
        Expect.index(13, forge, "rebase(-1, 1)", () -> forge.rebase(-1, 1));
        Expect.index(13, forge, "rebase(1, 4)", () -> forge.rebase(1, 4));
        Expect.index(13, forge, "rebase(1, -1)", () -> forge.rebase(1, -1));
        forge.setFlags(2, false, true);
        Expect.state(13, forge, "by who cannot see it", () -> forge.rebase(1, 2));
        Expect.due(13, "the owner can", forge.rebase(2, 2), 1);
        forge.take(0);
        forge.put(1, 0, 77);
        forge.open(4);
        forge.land(4, 4);
        Expect.state(13, forge, "it touches", () -> forge.rebase(2, 2));
        forge.abandon(1, 1);
        Expect.state(13, forge, "an abandoned change", () -> forge.rebase(1, 1));
    }

    private static void abandoningAndRestoring() {
        ReviewForge forge = new ReviewForge();
        forge.put(0, 0, 1);
        forge.open(0);
        forge.take(2);
        forge.put(0, 1, 1);
        forge.open(1);
        forge.put(0, 1, 2);
        forge.open(1);
        forge.take(4);
        forge.open(2);
        forge.upload(2, 3);
        Expect.due(14, "two have it as their parent", forge.abandon(5, 0), 2);
        Expect.due(19, "stateOf(0)", forge.stateOf(0), ABANDONED);
        Expect.due(14, "abandon(1, 1)", forge.abandon(1, 1), 0);
        Expect.due(15, "restore(0)", forge.restore(0), 0);
        Expect.due(19, "stateOf(0)", forge.stateOf(0), OPEN);
        Expect.due(14, "one of them is not open", forge.abandon(0, 0), 1);
        Expect.state(14, forge, "it is abandoned", () -> forge.abandon(0, 0));
        Expect.due(14, "abandon(2, 2)", forge.abandon(2, 2), 1);
        Expect.due(14, "abandon(3, 3)", forge.abandon(3, 3), 0);
        Expect.due(15, "restore(3)", forge.restore(3), 1);
        Expect.state(15, forge, "it is open", () -> forge.restore(3));
        Expect.index(14, forge, "abandon(6, 0)", () -> forge.abandon(6, 0));
        Expect.index(14, forge, "abandon(-1, 0)", () -> forge.abandon(-1, 0));
        Expect.index(14, forge, "abandon(0, 4)", () -> forge.abandon(0, 4));
        Expect.index(14, forge, "abandon(0, -1)", () -> forge.abandon(0, -1));
        Expect.index(15, forge, "restore(4)", () -> forge.restore(4));
        Expect.index(15, forge, "restore(-1)", () -> forge.restore(-1));
        forge.setFlags(3, false, true);
        Expect.state(14, forge, "by who cannot see it", () -> forge.abandon(0, 3));
        forge.addRule(15, 0, 0);
        forge.restore(0);
        forge.restore(1);
        forge.restore(2);
        Expect.due(47, "land(2, 3)", forge.land(2, 3), 3);
        Expect.state(14, forge, "it has landed", () -> forge.abandon(2, 3));
        Expect.state(15, forge, "it has landed", () -> forge.restore(3));
        Expect.due(19, "stateOf(3)", forge.stateOf(3), LANDED);
    }

    private static void flags() {
        ReviewForge forge = new ReviewForge();
        forge.open(0);
        Expect.due(16, "none at first", forge.setFlags(0, true, false), 0);
        Expect.due(43, "4 holds", forge.statements(0) & 48, 16);
        Expect.due(16, "in work", forge.setFlags(0, false, true), 1);
        Expect.due(43, "5 holds", forge.statements(0) & 48, 32);
        Expect.due(16, "private", forge.setFlags(0, true, true), 2);
        Expect.due(43, "both hold", forge.statements(0) & 48, 48);
        Expect.due(16, "both", forge.setFlags(0, false, false), 3);
        Expect.due(43, "none holds", forge.statements(0) & 48, 0);
        Expect.index(16, forge, "setFlags(1, ..)", () -> forge.setFlags(1, true, true));
        Expect.index(16, forge, "setFlags(-1, ..)", () -> forge.setFlags(-1, true, true));
        forge.abandon(0, 0);
        Expect.state(16, forge, "of an abandoned change", () -> forge.setFlags(0, true, true));
    }

    private static void topics() {
        ReviewForge forge = new ReviewForge();
        forge.open(0);
        Expect.due(17, "setTopic(0, 0)", forge.setTopic(0, 0), NONE);
        Expect.due(17, "setTopic(0, 3)", forge.setTopic(0, 3), 0);
        Expect.argument(17, forge, "setTopic(0, 4)", () -> forge.setTopic(0, 4));
        Expect.argument(17, forge, "setTopic(0, -2)", () -> forge.setTopic(0, -2));
        Expect.index(17, forge, "setTopic(1, 4)", () -> forge.setTopic(1, 4));
        Expect.index(17, forge, "setTopic(-1, 0)", () -> forge.setTopic(-1, 0));
        forge.abandon(0, 0);
        Expect.due(17, "also of an abandoned change", forge.setTopic(0, NONE), 3);
        Expect.due(17, "none", forge.setTopic(0, 1), NONE);
    }

    private static void privateChanges() {
        ReviewForge forge = new ReviewForge();
        forge.open(0);
        forge.vote(4, 0, 0, ReviewForge.REVIEW, 0);
        forge.setFlags(0, false, true);
        Expect.due(14, "who has voted sees it", forge.abandon(4, 0), 0);
        forge.restore(0);
        Expect.state(14, forge, "others do not", () -> forge.abandon(3, 0));
        forge.addReviewer(3, 0);
        Expect.due(14, "who was added does", forge.abandon(3, 0), 0);
    }

    private static void wrongNumbers() {
        ReviewForge forge = new ReviewForge();
        forge.open(0);
        Expect.index(19, forge, "stateOf(1)", () -> forge.stateOf(1));
        Expect.index(19, forge, "stateOf(-1)", () -> forge.stateOf(-1));
        Expect.index(20, forge, "sets(1)", () -> forge.sets(1));
        Expect.index(20, forge, "sets(-1)", () -> forge.sets(-1));
        Expect.index(21, forge, "commitOf(1, 0)", () -> forge.commitOf(1, 0));
        Expect.index(21, forge, "commitOf(-1, 0)", () -> forge.commitOf(-1, 0));
        Expect.index(21, forge, "commitOf(0, 1)", () -> forge.commitOf(0, 1));
        Expect.index(21, forge, "commitOf(0, -1)", () -> forge.commitOf(0, -1));
        Expect.index(22, forge, "kindOf(1, 0)", () -> forge.kindOf(1, 0));
        Expect.index(22, forge, "kindOf(0, 1)", () -> forge.kindOf(0, 1));
        Expect.index(22, forge, "kindOf(0, -1)", () -> forge.kindOf(0, -1));
        Expect.index(23, forge, "parentOf(1)", () -> forge.parentOf(1));
        Expect.index(23, forge, "parentOf(-1)", () -> forge.parentOf(-1));
    }
}
