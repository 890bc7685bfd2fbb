/** Promises 45 to 47: ways to land, groups, landing. */
public final class LandingTest {
    private static final int NONE = ReviewForge.NONE;
    private static final int OPEN = ReviewForge.OPEN;
    private static final int LANDED = ReviewForge.LANDED;
    private static final int FORWARD = ReviewForge.FORWARD;
    private static final int PICK = ReviewForge.PICK;
    private static final int SQUASH = ReviewForge.SQUASH;

    public static void main(String[] args) {
        ways();
        groups();
        groupsOfTopics();
        picking();
        forwarding();
        squashing();
        squashingBranches();
        aSquashedParentsCommit();
        bothRepositories();
        conflicts();
        anEleventhLine();
        indentsInMerges();
        tooManyCommits();
        notReady();
        outdated();
        theParentLandsWithIt();
        twentyInAChain();
        theOrder();
        landingRefused();
        Expect.finish("LandingTest");
    }

    /** A house in which everything is ready, and the desk is at the beginning. */
    private static ReviewForge allReady() {
        ReviewForge forge = new ReviewForge();
        forge.addRule(15, 0, 0);
        return forge;
    }

    private static void ways() {
        ReviewForge forge = new ReviewForge();
        Expect.due(45, "PICK at first", forge.setWay(0, SQUASH), PICK);
        Expect.due(45, "setWay", forge.setWay(0, FORWARD), SQUASH);
        Expect.due(45, "setWay", forge.setWay(0, PICK), FORWARD);
        Expect.due(45, "the other repository", forge.setWay(1, PICK), PICK);
        Expect.index(45, forge, "no such repository", () -> forge.setWay(2, 3));
        Expect.index(45, forge, "no such repository", () -> forge.setWay(-1, 0));
        Expect.argument(45, forge, "no such way", () -> forge.setWay(0, 3));
        Expect.argument(45, forge, "no such way", () -> forge.setWay(0, -1));
        Expect.due(45, "as before", forge.setWay(0, PICK), PICK);
    }

    private static void groups() {
        ReviewForge forge = allReady();
        House.openWithMore(forge, 0, 0, 1);
        House.openWithMore(forge, 2, 1, 1);
        House.openWithMore(forge, 3, 2, 1);
        House.openWithMore(forge, 2, 3, 1);
        Expect.due(46, "alone", forge.group(0), 1);
        Expect.due(46, "with its parents", forge.group(2), 7);
        Expect.due(46, "not with its parent's other child", forge.group(3), 9);
        forge.abandon(0, 1);
        Expect.due(46, "up to one that is not open", forge.group(2), 4);
        Expect.state(46, forge, "abandoned", () -> forge.group(1));
        forge.land(0, 0);
        Expect.state(46, forge, "landed", () -> forge.group(0));
        Expect.due(46, "the parent has landed", forge.group(3), 8);
        Expect.index(46, forge, "no such change", () -> forge.group(4));
        Expect.index(46, forge, "no such change", () -> forge.group(-1));
    }

    private static void groupsOfTopics() {
        ReviewForge forge = allReady();
        House.openWithMore(forge, 0, 0, 1);
        House.openWithMore(forge, 2, 0, 2);
        House.openWithMore(forge, 1, 0, 3);
        House.openWithMore(forge, 4, 0, 4);
        House.openWithMore(forge, 0, 1, 5);
        House.openWithMore(forge, 6, 1, 6);
        forge.setTopic(1, 2);
        forge.setTopic(2, 2);
        Expect.due(46, "the topic of a change", forge.group(1), 7);
        Expect.due(46, "the topic of its parent", forge.group(3), 15);
        Expect.due(46, "a parent without a topic does not draw", forge.group(0), 1);
        forge.setTopic(0, 1);
        forge.setTopic(5, 1);
        Expect.due(46, "topics of those who were drawn", forge.group(3), 63);
        Expect.due(46, "the child of one is not drawn", forge.group(5), 1 + 16 + 32);
        Expect.due(46, "an abandoned one is not drawn", forge.abandon(0, 5), 0);
        Expect.due(46, "an abandoned one is not drawn", forge.group(2), 7);
    }

    private static void picking() {
        ReviewForge forge = allReady();
        House.openWithMore(forge, 0, 0, 1);
        House.openWithMore(forge, 0, 1, 2);
        House.openWithMore(forge, 3, 1, 3);
        Expect.due(47, "land", forge.land(0, 0), 1);
        Expect.due(9, "a new commit although the base was the tip", forge.tip(0), 5);
        Expect.due(8, "ahead of it", forge.before(5), 0);
        Expect.due(47, "two land", forge.land(4, 2), 2);
        Expect.due(6, "two commits", forge.commits(), 8);
        Expect.due(9, "the tip", forge.tip(0), 7);
        Expect.due(8, "the parent's is ahead", forge.before(7), 6);
        Expect.due(8, "the tip is ahead", forge.before(6), 5);
        Expect.due(10, "namedAfter(6)", forge.namedAfter(6), 1);
        Expect.due(10, "namedAfter(7)", forge.namedAfter(7), 2);
        Expect.due(7, "merged", forge.line(7, 0, 0), 1);
        Expect.due(7, "merged", forge.line(7, 1, 0), 2);
        Expect.due(7, "merged", forge.line(7, 1, 1), 3);
        Expect.due(7, "the parent's", forge.line(6, 1, 1), NONE);
        Expect.due(19, "stateOf(1)", forge.stateOf(1), LANDED);
        Expect.due(19, "stateOf(2)", forge.stateOf(2), LANDED);
    }

    private static void forwarding() {
        ReviewForge forge = allReady();
        forge.setWay(0, FORWARD);
        House.openWithMore(forge, 0, 0, 1);
        House.openWithMore(forge, 2, 1, 2);
        House.openWithMore(forge, 0, 2, 3);
        Expect.due(47, "two land", forge.land(0, 1), 2);
        Expect.due(9, "the tip", forge.tip(0), 3);
        Expect.due(6, "no new commits", forge.commits(), 5);
        Expect.due(10, "namedAfter(2)", forge.namedAfter(2), 0);
        Expect.due(10, "namedAfter(3)", forge.namedAfter(3), 1);
        Expect.due(47, "the base is not the tip", forge.land(0, 2), NONE);
        Expect.due(19, "stateOf(2)", forge.stateOf(2), OPEN);
        Expect.due(10, "namedAfter(4)", forge.namedAfter(4), NONE);
        Expect.due(9, "the tip", forge.tip(0), 3);
        Expect.due(13, "rebase", forge.rebase(0, 2), 1);
        Expect.due(23, "a landed parent", forge.parentOf(2), 10);
        Expect.due(47, "now it lands", forge.land(0, 2), 1);
        Expect.due(9, "the tip", forge.tip(0), 5);
        House.openWithMore(forge, 5, 3, 1);
        House.openWithMore(forge, 5, 3, 2);
        forge.setTopic(3, 0);
        forge.setTopic(4, 0);
        Expect.due(47, "the first one takes the tip away", forge.land(0, 3), NONE);
        Expect.due(9, "all is as before", forge.tip(0), 5);
        Expect.due(10, "all is as before", forge.namedAfter(6), NONE);
        Expect.due(19, "all is as before", forge.stateOf(3), OPEN);
    }

    private static void squashing() {
        ReviewForge forge = allReady();
        forge.setWay(0, SQUASH);
        House.openWithMore(forge, 0, 0, 1);
        House.openWithMore(forge, 2, 0, 2);
        House.openWithMore(forge, 3, 0, 3);
        House.openWithMore(forge, 0, 1, 9);
        Expect.due(47, "alone as PICK", forge.land(0, 3), 1);
        Expect.due(9, "alone as PICK", forge.tip(0), 6);
        Expect.due(47, "three land", forge.land(0, 2), 3);
        Expect.due(6, "with one commit", forge.commits(), 8);
        Expect.due(10, "named after the last", forge.namedAfter(7), 2);
        Expect.due(8, "before(7)", forge.before(7), 6);
        for (int place = 0; place < 3; place++) {
            Expect.due(7, "the lines of all", forge.line(7, 0, place), place + 1);
        }
        Expect.due(7, "those of the tip", forge.line(7, 1, 0), 9);
        Expect.due(19, "stateOf(0)", forge.stateOf(0), LANDED);
        Expect.due(19, "stateOf(1)", forge.stateOf(1), LANDED);
    }

    /** Two children of one parent land in one group: each brings what the parent has. */
    private static void squashingBranches() {
        ReviewForge forge = allReady();
        forge.setWay(0, SQUASH);
        House.openWithMore(forge, 0, 0, 1);
        House.openWithMore(forge, 2, 1, 2);
        House.openWithMore(forge, 2, 2, 3);
        House.openWithMore(forge, 2, 3, 4);
        forge.setTopic(1, 3);
        forge.setTopic(2, 3);
        Expect.due(47, "three land", forge.land(0, 2), 3);
        Expect.due(6, "with two commits", forge.commits(), 8);
        Expect.due(10, "namedAfter(6)", forge.namedAfter(6), 1);
        Expect.due(10, "namedAfter(7)", forge.namedAfter(7), 2);
        Expect.due(7, "the parent's line once", forge.line(7, 0, 1), NONE);
        Expect.due(7, "the parent's line", forge.line(6, 0, 0), 1);
        Expect.due(7, "the first child's", forge.line(7, 1, 0), 2);
        Expect.due(13, "a third child", forge.rebase(0, 3), 1);
        Expect.due(8, "on the first commit that came for the parent", forge.before(8), 6);
    }

    private static void aSquashedParentsCommit() {
        ReviewForge forge = allReady();
        forge.setWay(0, SQUASH);
        House.openWithMore(forge, 0, 0, 1);
        House.openWithMore(forge, 2, 1, 2);
        House.openWithMore(forge, 2, 2, 3);
        House.openWithMore(forge, 3, 3, 4);
        Expect.due(47, "the parent lands with one child", forge.land(0, 1), 2);
        Expect.due(13, "the other child", forge.rebase(0, 2), 1);
        Expect.due(8, "on that child's commit", forge.before(7), 6);
        Expect.due(13, "the child's child", forge.rebase(0, 3), 1);
        Expect.due(8, "on the same", forge.before(8), 6);
        Expect.due(47, "alone it is PICK", forge.land(0, 3), 1);
        Expect.due(9, "tip", forge.tip(0), 9);
    }

    private static void bothRepositories() {
        ReviewForge forge = allReady();
        House.openWithMore(forge, 0, 0, 1);
        House.openWithMore(forge, 1, 0, 2);
        House.openWithMore(forge, 3, 0, 3);
        forge.setTopic(0, 0);
        forge.setTopic(2, 0);
        forge.setWay(0, FORWARD);
        forge.setWay(1, SQUASH);
        Expect.due(47, "three land", forge.land(0, 0), 3);
        Expect.due(9, "tip(0)", forge.tip(0), 2);
        Expect.due(9, "tip(1)", forge.tip(1), 5);
        Expect.due(6, "commits()", forge.commits(), 6);
        Expect.due(10, "namedAfter(5)", forge.namedAfter(5), 2);
        House.openWithMore(forge, 0, 0, 1);
        House.openWithMore(forge, 1, 3, 2);
        forge.setTopic(3, 1);
        forge.setTopic(4, 1);
        Expect.due(47, "the one cannot, so none does", forge.land(0, 4), NONE);
        Expect.due(9, "tip(1)", forge.tip(1), 5);
        Expect.due(6, "commits()", forge.commits(), 8);
        Expect.due(19, "stateOf(4)", forge.stateOf(4), OPEN);
    }

    private static void conflicts() {
        ReviewForge forge = allReady();
        House.openWithMore(forge, 0, 0, 1);
        House.openWithMore(forge, 0, 0, 2);
        House.openWithMore(forge, 1, 3, 3);
        forge.setTopic(1, 0);
        forge.setTopic(2, 0);
        forge.land(0, 0);
        Expect.due(9, "tip(0)", forge.tip(0), 5);
        Expect.due(47, "a conflict", forge.land(0, 2), NONE);
        Expect.due(47, "a conflict", forge.land(0, 1), NONE);
        Expect.due(6, "no commit is left", forge.commits(), 6);
        Expect.due(9, "tip(0)", forge.tip(0), 5);
        Expect.due(9, "tip(1)", forge.tip(1), 1);
        Expect.due(19, "stateOf(2)", forge.stateOf(2), OPEN);
        House.openWithMore(forge, 0, 0, 5);
        forge.setTopic(1, NONE);
        forge.setTopic(3, 0);
        Expect.due(47, "a conflict behind one that would land", forge.land(0, 2), NONE);
        Expect.due(9, "tip(1)", forge.tip(1), 1);
        Expect.due(6, "no commit is left", forge.commits(), 7);
        forge.setTopic(3, NONE);
        Expect.due(47, "alone it lands", forge.land(0, 2), 1);
        Expect.due(9, "tip(1)", forge.tip(1), 7);
        Expect.due(10, "namedAfter(7)", forge.namedAfter(7), 2);
        forge.take(5);
        for (int many = 0; many < 9; many++) {
            forge.put(0, 0, 90 + many);
        }
        forge.open(0);
        House.openWithMore(forge, 5, 0, 7);
        Expect.due(47, "ten lines", forge.land(0, 4), 1);
        Expect.due(47, "eleven would be too many", forge.land(0, 5), NONE);
    }

    /** It does not matter whether the eleventh line is a new one or one that was there. */
    private static void anEleventhLine() {
        for (int more = 3; more <= 5; more++) {
            ReviewForge forge = allReady();
            House.openWithMore(forge, 0, 0, 1);
            House.openWithMore(forge, 2, 0, 2);
            forge.land(0, 1);
            int tip = forge.tip(0);
            for (int place = 0; place < 2; place++) {
                forge.take(tip);
                for (int many = 0; many < (place == 0 ? 5 : more); many++) {
                    forge.put(0, place, 50 + 10 * place + many);
                }
                forge.open(0);
            }
            Expect.due(47, "seven lines", forge.land(0, 2), 1);
            Expect.due(47, "five and " + more + " more", forge.land(0, 3), more == 3 ? 1 : NONE);
            Expect.due(13, "the last line", forge.line(forge.tip(0), 0, more == 3 ? 9 : 6), 2);
        }
    }

    /** Lines of the same word, but of another indent, are not the same. */
    private static void indentsInMerges() {
        ReviewForge forge = allReady();
        House.openWithMore(forge, 0, 0, 1);
        House.openWithMore(forge, 2, 0, 2);
        House.openWithMore(forge, 3, 0, 3);
        forge.land(0, 2);
        int tip = forge.tip(0);
        forge.take(tip);
        forge.cut(0, 0);
        forge.put(0, 0, 101);
        forge.open(0);
        forge.take(tip);
        forge.cut(0, 2);
        forge.put(0, 2, 203);
        forge.open(0);
        forge.take(tip);
        forge.cut(0, 0);
        forge.put(0, 0, 201);
        forge.open(0);
        Expect.due(47, "an indent at the beginning", forge.land(0, 3), 1);
        Expect.due(47, "another one at the end", forge.land(0, 4), 1);
        Expect.due(7, "both are there", forge.line(forge.tip(0), 0, 0), 101);
        Expect.due(7, "both are there", forge.line(forge.tip(0), 0, 2), 203);
        Expect.due(47, "another one at the beginning", forge.land(0, 5), NONE);
    }

    private static void tooManyCommits() {
        ReviewForge forge = allReady();
        House.openWithMore(forge, 0, 0, 1);
        House.openWithMore(forge, 2, 0, 2);
        House.openWithMore(forge, 0, 1, 3);
        forge.take(0);
        forge.put(1, 0, 4);
        for (int commit = 5; commit < 79; commit++) {
            forge.upload(0, 2);
        }
        Expect.due(6, "commits()", forge.commits(), 79);
        Expect.due(47, "two would be too many", forge.land(0, 1), NONE);
        Expect.due(6, "commits()", forge.commits(), 79);
        Expect.due(9, "tip(0)", forge.tip(0), 0);
        forge.setWay(0, SQUASH);
        Expect.due(47, "one is not", forge.land(0, 1), 2);
        Expect.due(6, "commits()", forge.commits(), 80);
        Expect.due(47, "one more would be", forge.land(0, 2), NONE);
    }

    private static void notReady() {
        ReviewForge forge = new ReviewForge();
        House.openWithMore(forge, 0, 0, 1);
        House.openWithMore(forge, 2, 0, 2);
        forge.setLastResort(4);
        Expect.due(47, "not ready", forge.land(0, 0), 0);
        forge.vote(4, 0, 0, ReviewForge.REVIEW, 2);
        forge.vote(4, 1, 0, ReviewForge.REVIEW, 2);
        forge.vote(4, 1, 0, ReviewForge.VERIFY, 1);
        Expect.due(44, "lacks(1)", forge.lacks(1), 0);
        Expect.due(47, "the parent is not ready", forge.land(0, 1), 0);
        Expect.due(19, "stateOf(1)", forge.stateOf(1), OPEN);
        forge.vote(5, 0, 0, ReviewForge.VERIFY, 1);
        forge.setFlags(1, true, false);
        Expect.due(47, "in work", forge.land(0, 1), 0);
        Expect.due(47, "the parent alone", forge.land(0, 0), 1);
        forge.setFlags(1, false, false);
        Expect.due(47, "then the child", forge.land(0, 1), 1);
    }

    private static void outdated() {
        ReviewForge forge = allReady();
        House.openWithMore(forge, 0, 0, 1);
        House.openWithMore(forge, 2, 1, 2);
        House.openWithMore(forge, 3, 2, 3);
        forge.takeSet(0, 0);
        forge.put(3, 0, 4);
        forge.upload(0, 0);
        Expect.due(47, "outdated", forge.land(0, 1), 0);
        Expect.due(47, "its parent is", forge.land(0, 2), 0);
        forge.land(0, 0);
        Expect.due(47, "also when the parent has landed", forge.land(0, 1), 0);
        forge.rebase(0, 1);
        Expect.due(47, "rebased", forge.land(0, 1), 1);
        Expect.due(47, "now the next one is", forge.land(0, 2), 0);
    }

    private static void theParentLandsWithIt() {
        ReviewForge forge = new ReviewForge();
        forge.dropRule(0);
        forge.addRule(15, 64, 0);
        House.openWithMore(forge, 0, 0, 1);
        House.openWithMore(forge, 2, 1, 2);
        House.openWithMore(forge, 3, 2, 3);
        Expect.due(44, "6 is lacking", forge.lacks(1), 64);
        Expect.due(47, "but not when it lands with it", forge.land(0, 1), 2);
        Expect.due(44, "ready", forge.lacks(2), 0);
        House.openWithMore(forge, 4, 3, 4);
        forge.abandon(0, 2);
        Expect.due(47, "an abandoned parent does not land", forge.land(0, 3), 0);
        forge.addRule(15, 0, 64);
        Expect.due(47, "where it must not", forge.land(0, 3), 1);
    }

    private static void twentyInAChain() {
        for (int way = FORWARD; way <= SQUASH; way++) {
            ReviewForge forge = allReady();
            forge.setWay(0, way);
            int last = 0;
            for (int change = 0; change < 20; change++) {
                last = forge.commitOf(House.openWithMore(forge, last, change / 9, change), 0);
            }
            Expect.due(46, "all of the chain", forge.group(19), (1 << 20) - 1);
            Expect.due(47, "all of the chain", forge.land(0, 19), 20);
            for (int change = 0; change < 20; change++) {
                Expect.due(19, "stateOf", forge.stateOf(change), LANDED);
            }
            int[] commits = {22, 42, 23};
            Expect.due(6, "commits()", forge.commits(), commits[way]);
            Expect.due(10, "the tip is named", forge.namedAfter(forge.tip(0)), 19);
            Expect.due(7, "the last line", forge.line(forge.tip(0), 2, 1), 19);
            Expect.due(7, "the first line", forge.line(forge.tip(0), 0, 0), 0);
            Expect.index(5, forge, "cut(4, 0)", () -> forge.cut(4, 0));
            Expect.index(4, forge, "put(4, 0, 0)", () -> forge.put(4, 0, 0));
            Expect.index(7, forge, "line(NONE, 4, 0)", () -> forge.line(NONE, 4, 0));
            Expect.index(9, forge, "tip(2)", () -> forge.tip(2));
        }
    }

    /** By rising numbers, but a parent with a greater number ahead of the one whose parent it is. */
    private static void theOrder() {
        ReviewForge forge = allReady();
        House.openWithMore(forge, 0, 0, 1);
        House.openWithMore(forge, 0, 1, 2);
        House.openWithMore(forge, 0, 2, 3);
        forge.take(3);
        forge.put(0, 0, 1);
        forge.upload(0, 0);
        for (int change = 0; change < 3; change++) {
            forge.setTopic(change, 0);
        }
        Expect.due(23, "the parent has the greater number", forge.parentOf(0), 10);
        Expect.due(47, "three land", forge.land(0, 0), 3);
        Expect.due(10, "first the parent", forge.namedAfter(6), 1);
        Expect.due(10, "then its child", forge.namedAfter(7), 0);
        Expect.due(10, "then the other one", forge.namedAfter(8), 2);
        Expect.due(9, "tip(0)", forge.tip(0), 8);
    }

    private static void landingRefused() {
        ReviewForge forge = allReady();
        House.openWithMore(forge, 0, 0, 1);
        House.openWithMore(forge, 0, 1, 1);
        Expect.index(47, forge, "no such person", () -> forge.land(6, 0));
        Expect.index(47, forge, "no such person", () -> forge.land(-1, 0));
        Expect.index(47, forge, "no such change", () -> forge.land(0, 2));
        Expect.index(47, forge, "no such change", () -> forge.land(0, -1));
        forge.setFlags(0, false, true);
        Expect.state(47, forge, "not seen", () -> forge.land(1, 0));
        forge.setTopic(0, 1);
        forge.setTopic(1, 1);
        Expect.due(47, "who sees one of the group lands all", forge.land(1, 1), 2);
        Expect.state(47, forge, "landed", () -> forge.land(0, 0));
        House.openWithMore(forge, 0, 2, 1);
        forge.abandon(0, 2);
        Expect.state(47, forge, "abandoned", () -> forge.land(0, 2));
    }
}
