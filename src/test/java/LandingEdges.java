/** The boundary cases of groups and landing: promises 45 to 47. */
final class LandingEdges {
    private static final int NONE = ReviewForge.NONE;
    private static final int OPEN = ReviewForge.OPEN;
    private static final int LANDED = ReviewForge.LANDED;
    private static final int FORWARD = ReviewForge.FORWARD;
    private static final int PICK = ReviewForge.PICK;
    private static final int SQUASH = ReviewForge.SQUASH;

    private LandingEdges() {
    }

    static void run() {
        allOrNone();
        groups();
        groupsOfAll();
        order();
        readyAndOutdated();
        forward();
        pick();
        squash();
        squashUpward();
        noneLands();
        tooManyCommits();
        names();
        ways();
        groupRefused();
        landRefused();
    }

    /** A house in which all is ready. */
    private static ReviewForge ready() {
        return House.allReady(new ReviewForge());
    }

    /** So many changes, each on the one before it, the first one on the commit 0: their commits are 2, 3 and so on. */
    private static ReviewForge chain(int many) {
        ReviewForge forge = ready();
        for (int change = 0; change < many; change++) {
            House.openWithMore(forge, change == 0 ? 0 : change + 1, change % 4, change);
        }
        return forge;
    }

    /** So many changes side by side on the commit 0. */
    private static ReviewForge row(int many) {
        ReviewForge forge = ready();
        for (int change = 0; change < many; change++) {
            House.openWithMore(forge, 0, change % 4, 5);
        }
        return forge;
    }

    private static void allOrNone() {
        Edge.says("A group of changes lands all or none.");
        ReviewForge forge = chain(3);
        Edge.due("all", forge.land(0, 2), 3);
        for (int change = 0; change < 3; change++) {
            Edge.due("the state of " + change, forge.stateOf(change), LANDED);
        }
        ReviewForge none = row(2);
        House.openWithMore(none, 1, 0, 1);
        House.openWithMore(none, 0, 0, 6);
        none.land(0, 3);
        int tip = none.tip(0);
        for (int change = 0; change < 3; change++) {
            none.setTopic(change, 1);
        }
        Edge.due("the first one is in conflict", none.land(0, 2), NONE);
        for (int change = 0; change < 3; change++) {
            Edge.due("the state of " + change, none.stateOf(change), OPEN);
        }
        Edge.due("the tip", none.tip(0), tip);
        Edge.due("the other tip", none.tip(1), 1);
    }

    private static void groups() {
        Edge.says("For one change this is the change, its parent, if that is OPEN, the parent of that, and so on;");
        Edge.due("one alone", row(2).group(1), 2);
        Edge.due("the first one of a chain", chain(3).group(0), 1);
        Edge.due("the last one of a chain", chain(3).group(2), 7);
        ReviewForge forge = chain(4);
        forge.abandon(0, 1);
        Edge.due("up to an abandoned one", forge.group(3), 8 + 4);
        ReviewForge landed = chain(4);
        landed.land(0, 1);
        Edge.due("up to a landed one", landed.group(3), 8 + 4);
        ReviewForge children = chain(2);
        House.openWithMore(children, 2, 3, 9);
        Edge.due("not the other child of its parent", children.group(2), 4 + 1);
        Edge.says("and if some change of the group has a topic, all OPEN changes with this topic, with their parents likewise, as"
                + " long as there are more.");
        ReviewForge topics = row(6);
        Edge.due("without a topic changes have none in common", topics.group(0), 1);
        topics.setTopic(0, 0);
        topics.setTopic(5, 0);
        Edge.due("the topic 0 is one", topics.group(0), 33);
        topics.setTopic(3, 3);
        topics.setTopic(4, 3);
        Edge.due("the topic 3 is one", topics.group(4), 8 + 16);
        topics.setTopic(5, NONE);
        Edge.due("none any more", topics.group(0), 1);
        topics.abandon(0, 3);
        Edge.due("an abandoned one", topics.group(4), 16);
        ReviewForge more = chain(2);
        House.openWithMore(more, 1, 0, 5);
        House.openWithMore(more, 4, 0, 6);
        House.openWithMore(more, 0, 3, 7);
        House.openWithMore(more, 6, 3, 8);
        more.setTopic(1, 0);
        more.setTopic(3, 0);
        more.setTopic(2, 1);
        more.setTopic(5, 1);
        Edge.due("the topic of a parent of one with its topic, and their parents", more.group(0), 1);
        Edge.due("from the last one of a chain", more.group(1), 63);
        Edge.due("from the one that is drawn last", more.group(5), 63 - 3 - 8);
        Edge.due("from a parent without a topic", more.group(4), 16);
    }

    private static void groupsOfAll() {
        Edge.says("with their parents likewise, as long as there are more.");
        Edge.due("a chain of twenty", chain(20).group(19), (1 << 20) - 1);
        Edge.due("a chain of twenty but the last", chain(20).group(18), (1 << 19) - 1);
        ReviewForge forge = ready();
        for (int pair = 0; pair < 4; pair++) {
            House.openWithMore(forge, 0, pair, 1);
            House.openWithMore(forge, forge.commitOf(2 * pair, 0), pair, 2);
        }
        for (int pair = 0; pair < 4; pair++) {
            forge.setTopic(2 * pair, pair);
            forge.setTopic(2 * pair + 1, (pair + 1) % 4);
        }
        Edge.due("four topics that hang together", forge.group(7), 255);
        ReviewForge all = row(20);
        for (int change = 0; change < 20; change++) {
            all.setTopic(change, 3);
        }
        Edge.due("twenty with one topic", all.group(10), (1 << 20) - 1);
    }

    private static String namesFrom(ReviewForge forge, int commit) {
        StringBuilder text = new StringBuilder();
        for (int at = commit; at < forge.commits(); at++) {
            text.append(at == commit ? "" : " ").append(forge.namedAfter(at));
        }
        return text.toString();
    }

    private static void order() {
        Edge.says("They land by rising numbers, but parents ahead of those whose parent they are.");
        ReviewForge rising = row(4);
        for (int change = 0; change < 4; change++) {
            rising.setTopic(change, 0);
        }
        rising.land(0, 2);
        Edge.due("side by side", namesFrom(rising, 6), "0 1 2 3");
        ReviewForge forge = row(4);
        forge.take(3);
        forge.put(0, 0, 5);
        forge.upload(0, 0);
        for (int change = 0; change < 4; change++) {
            forge.setTopic(change, 0);
        }
        forge.land(0, 3);
        Edge.due("the parent of 0 is 1", namesFrom(forge, 7), "1 0 2 3");
        ReviewForge two = row(3);
        two.take(4);
        two.put(0, 0, 5);
        two.upload(0, 0);
        two.take(two.commitOf(0, 1));
        two.put(1, 0, 5);
        two.upload(0, 1);
        Edge.due("2 is the parent of 0, which is that of 1", two.parentOf(1) * 100 + two.parentOf(0), 20);
        Edge.due("all land", two.land(0, 1), 3);
        Edge.due("from above to below", namesFrom(two, 7), "2 0 1");
        for (int way = FORWARD; way <= SQUASH; way += 2) {
            ReviewForge other = row(2);
            other.take(3);
            other.put(0, 0, 5);
            other.upload(0, 0);
            other.setWay(0, way);
            Edge.due("also by the way " + way, other.land(0, 0), 2);
            Edge.due("the tip by the way " + way, other.tip(0), way == FORWARD ? 4 : 5);
            Edge.due("is named by the way " + way, other.namedAfter(other.tip(0)), 0);
        }
    }

    private static void readyAndOutdated() {
        Edge.says("All of them have to be ready (with 6 as told there), and none outdated.");
        ReviewForge forge = chain(3);
        forge.dropRule(1);
        forge.dropRule(0);
        forge.addRule(15, 64, 16);
        Edge.due("with 6, as the parents land with it", forge.land(0, 2), 3);
        for (int inWork = 0; inWork < 3; inWork++) {
            ReviewForge work = chain(3);
            work.dropRule(1);
            work.dropRule(0);
            work.addRule(15, 0, 16);
            work.setFlags(inWork, true, false);
            Edge.due("one is in work: " + inWork, work.land(0, 2), 0);
            Edge.due("the state of the first one", work.stateOf(0), OPEN);
            work.setFlags(inWork, false, false);
            Edge.due("none is", work.land(0, 2), 3);
        }
        ReviewForge outdated = chain(3);
        outdated.takeSet(0, 0);
        outdated.upload(0, 0);
        Edge.due("the second one is outdated", outdated.land(0, 2), 0);
        Edge.due("itself", outdated.land(0, 1), 0);
        Edge.due("the first one is not", outdated.land(0, 0), 1);
        Edge.due("still", outdated.land(0, 1), 0);
        outdated.rebase(0, 1);
        Edge.due("rebased it is not, but the last one is", outdated.land(0, 2), 0);
        Edge.due("it lands alone", outdated.land(0, 1), 1);
    }

    private static void forward() {
        Edge.says("FORWARD: a change lands if its base is the tip; its current patch set is the new tip.");
        ReviewForge forge = row(2);
        forge.setWay(0, FORWARD);
        Edge.due("its base is the tip", forge.land(0, 0), 1);
        Edge.due("its patch set", forge.tip(0), 2);
        Edge.due("no commit is made", forge.commits(), 4);
        Edge.due("its base is not the tip", forge.land(0, 1), NONE);
        Edge.due("the tip stays", forge.tip(0), 2);
        forge.rebase(0, 1);
        Edge.due("its base is the tip by now", forge.land(0, 1), 1);
        Edge.due("its current patch set", forge.tip(0), 4);
        ReviewForge two = chain(2);
        two.setWay(0, FORWARD);
        Edge.due("a chain", two.land(0, 1), 2);
        Edge.due("the last one", two.tip(0), 3);
        ReviewForge lines = chain(1);
        lines.setWay(0, FORWARD);
        House.openWithMore(lines, 0, 3, 9);
        lines.land(0, 1);
        Edge.due("the first one on an older tip", lines.land(0, 0), NONE);
        ReviewForge other = ready();
        other.setWay(0, FORWARD);
        House.openWithMore(other, 1, 0, 5);
        other.land(0, 0);
        Edge.due("the other repository is as it was", other.tip(1) * 10 + other.commits(), 34);
    }

    private static void pick() {
        Edge.says("PICK: the merge of its current patch set and the tip, which come from its base, is a new commit with the tip ahead"
                + " of it, and the new tip.");
        ReviewForge forge = row(2);
        Edge.due("its base is the tip", forge.land(0, 0), 1);
        Edge.due("a new commit all the same", forge.tip(0), 4);
        Edge.due("with the tip ahead", forge.before(4), 0);
        Edge.due("its base is not the tip", forge.land(0, 1), 1);
        Edge.due("with the tip ahead of it", forge.before(5), 4);
        Edge.due("the merge", House.lines(forge, 5, 0) + "," + House.lines(forge, 5, 1), "5,5");
        ReviewForge same = ready();
        House.openOn(same, 0, 0, 1);
        House.openOn(same, 0, 0, 1);
        same.land(0, 0);
        Edge.due("the same lines are there already", same.land(0, 1), 1);
        Edge.due("once", House.lines(same, same.tip(0), 0), "1");
        ReviewForge nothing = ready();
        nothing.open(0);
        Edge.due("one that changes nothing", nothing.land(0, 0), 1);
        Edge.due("has a commit", nothing.tip(0), 3);
        ReviewForge ten = ready();
        House.openOn(ten, 0, 0, 1);
        ten.land(0, 0);
        House.openOn(ten, 3, 0, 1, 11, 12, 13, 14, 15);
        House.openOn(ten, 3, 0, 21, 22, 23, 24, 1);
        House.openOn(ten, 3, 0, 21, 22, 23, 24, 25, 1);
        ten.land(0, 1);
        Edge.due("11 lines", ten.land(0, 3), NONE);
        Edge.due("10 lines", ten.land(0, 2), 1);
        Edge.due("they are there", House.lines(ten, ten.tip(0), 0), "21 22 23 24 1 11 12 13 14 15");
    }

    private static void squash() {
        Edge.says("SQUASH: as PICK, but if a change and its parent land in one group, there is no commit for the parent: then the base"
                + " of the parent is taken in place of that of the change, and so on.");
        ReviewForge alone = row(1);
        alone.setWay(0, SQUASH);
        Edge.due("alone", alone.land(0, 0), 1);
        Edge.due("a commit", alone.tip(0), 3);
        ReviewForge two = chain(2);
        two.setWay(0, SQUASH);
        Edge.due("two", two.land(0, 1), 2);
        Edge.due("one commit", two.commits(), 5);
        Edge.due("with both", House.lines(two, 4, 0) + "," + House.lines(two, 4, 1), "0,1");
        Edge.due("named after the child", two.namedAfter(4), 1);
        Edge.due("with the tip ahead", two.before(4), 0);
        for (int many = 19; many <= 20; many++) {
            ReviewForge all = chain(many);
            all.setWay(0, SQUASH);
            Edge.due("a chain of " + many, all.land(0, many - 1), many);
            Edge.due("one commit", all.commits(), many + 3);
            Edge.due("the first line", all.line(all.tip(0), 0, 0), 0);
            Edge.due("the last file", House.lines(all, all.tip(0), 3), many == 20 ? "3 7 11 15 19" : "3 7 11 15");
        }
        ReviewForge landed = chain(2);
        landed.land(0, 0);
        landed.setWay(0, SQUASH);
        Edge.due("the parent has landed before: as PICK", landed.land(0, 1), 1);
        Edge.due("its lines alone are new", House.lines(landed, landed.tip(0), 1), "1");
        ReviewForge edited = ready();
        House.openOn(edited, 0, 0, 1);
        House.openOn(edited, 2, 1, 2);
        edited.land(0, 0);
        House.openOn(edited, edited.tip(0), 0, 9);
        edited.land(0, 2);
        edited.setWay(0, SQUASH);
        Edge.due("the landed parent's line is another one by now", edited.land(0, 1), 1);
        Edge.due("which stays", House.lines(edited, edited.tip(0), 0) + "," + House.lines(edited, edited.tip(0), 1), "9,2");
        ReviewForge abandoned = ready();
        House.openOn(abandoned, 0, 0, 1);
        House.openOn(abandoned, 2, 1, 2);
        abandoned.abandon(0, 0);
        abandoned.setWay(0, SQUASH);
        Edge.due("an abandoned parent", abandoned.land(0, 1), 1);
        Edge.due("does not come with it", House.lines(abandoned, abandoned.tip(0), 0) + "," + House.lines(abandoned, abandoned.tip(0), 1),
                ",2");
        ReviewForge topic = row(2);
        topic.setWay(0, SQUASH);
        topic.setTopic(0, 0);
        topic.setTopic(1, 0);
        Edge.due("two of a topic that are no parents", topic.land(0, 0), 2);
        Edge.due("two commits", namesFrom(topic, 4), "0 1");
        ReviewForge other = chain(2);
        other.setWay(1, SQUASH);
        other.land(0, 1);
        Edge.due("the way of another repository", other.commits(), 6);
    }

    /** The parent has the greater number; two branches below one parent; children of what has no commit. */
    private static void squashUpward() {
        Edge.says("there is no commit for the parent:");
        ReviewForge up = row(2);
        up.take(3);
        up.put(2, 0, 8);
        up.upload(0, 0);
        up.setWay(0, SQUASH);
        Edge.due("the parent has the greater number", up.parentOf(0), 10);
        Edge.due("both", up.land(0, 0), 2);
        Edge.due("one commit", namesFrom(up, 5), "0");
        Edge.due("the lines of both", House.lines(up, 5, 1) + "," + House.lines(up, 5, 2), "5,8");
        ReviewForge branches = chain(2);
        House.openWithMore(branches, 2, 2, 7);
        branches.setTopic(1, 0);
        branches.setTopic(2, 0);
        branches.setWay(0, SQUASH);
        Edge.due("three", branches.land(0, 2), 3);
        Edge.due("two commits", namesFrom(branches, 5), "1 2");
        Edge.due("the parent's line is there once", House.lines(branches, 6, 0), "0");
        ReviewForge inConflict = ready();
        House.openOn(inConflict, 0, 0, 1);
        House.openOn(inConflict, 2, 0, 2);
        House.openOn(inConflict, 2, 1, 7);
        inConflict.setTopic(1, 0);
        inConflict.setTopic(2, 0);
        inConflict.setWay(0, SQUASH);
        Edge.due("the one takes the parent's line away, the other one brings it", inConflict.land(0, 2), NONE);
        ReviewForge undone = ready();
        House.openOn(undone, 0, 0, 1);
        House.openOn(undone, 2, 0);
        House.openOn(undone, 0, 0, 9);
        undone.land(0, 2);
        Edge.due("the parent by itself would be in conflict", undone.land(0, 0), NONE);
        undone.setWay(0, SQUASH);
        Edge.due("with a child that takes its line away it is not", undone.land(0, 1), 2);
        Edge.due("the tip's line", House.lines(undone, undone.tip(0), 0), "9");
    }

    /** What would land first is not in conflict; the second one is. */
    private static ReviewForge inConflict() {
        ReviewForge forge = ready();
        House.openWithMore(forge, 1, 0, 1);
        House.openWithMore(forge, 0, 0, 1);
        House.openWithMore(forge, 0, 0, 2);
        forge.land(0, 1);
        forge.setTopic(0, 0);
        forge.setTopic(2, 0);
        return forge;
    }

    private static ReviewForge notOnTheTip() {
        ReviewForge forge = row(3);
        forge.setWay(0, FORWARD);
        forge.setTopic(0, 0);
        forge.setTopic(2, 0);
        return forge;
    }

    private static ReviewForge failed(ReviewForge forge) {
        Edge.due("none lands", forge.land(0, 2), NONE);
        return forge;
    }

    private static void noneLands() {
        Edge.says("If there is a conflict, or a base is not the tip, or there would be too many commits, none lands, and all is as"
                + " before.");
        Edge.alike("a conflict behind one that would land", Probe.of(failed(inConflict())), Probe.of(inConflict()));
        Edge.alike("a base that is not the tip", Probe.of(failed(notOnTheTip())), Probe.of(notOnTheTip()));
        Edge.alike("too many commits", Probe.of(failed(commits(3, 78))), Probe.of(commits(3, 78)));
        ReviewForge forge = failed(inConflict());
        forge.take(0);
        forge.put(3, 0, 7);
        forge.open(5);
        Edge.due("the number is used again", forge.commitOf(3, 0), 6);
        Edge.due("it is named after none", forge.namedAfter(6), NONE);
        Edge.due("it is the patch set of one alone", forge.parentOf(3), NONE);
        Edge.due("nobody has voted on it", forge.worth(0, 3, 0, ReviewForge.REVIEW), 0);
        ReviewForge notReady = inConflict();
        notReady.dropRule(1);
        Edge.due("not ready comes ahead of a conflict", notReady.land(0, 2), 0);
    }

    /** A chain of so many changes, and so many commits: the others are patch sets of the first one's other child. */
    private static ReviewForge commits(int changes, int many) {
        ReviewForge forge = chain(changes);
        forge.take(0);
        forge.open(0);
        while (forge.commits() < many) {
            forge.upload(0, changes);
        }
        return forge;
    }

    private static void tooManyCommits() {
        Edge.says(47, "Returns how many changes land; 0 if one of them is not ready or outdated; NONE if there is a conflict, a base is"
                + " not the tip, or there would be more than 80 commits.");
        Edge.due("three on 77", commits(3, 77).land(0, 2), 3);
        Edge.due("three on 78", commits(3, 78).land(0, 2), NONE);
        Edge.due("two on 78", commits(3, 78).land(0, 1), 2);
        Edge.due("one on 79", commits(3, 79).land(0, 0), 1);
        Edge.due("one on 80", commits(3, 80).land(0, 0), NONE);
        ReviewForge squash = commits(3, 79);
        squash.setWay(0, SQUASH);
        Edge.due("three on 79 with one commit", squash.land(0, 2), 3);
        Edge.due("80 commits", squash.commits(), 80);
        ReviewForge none = commits(3, 80);
        none.setWay(0, SQUASH);
        Edge.due("three on 80", none.land(0, 2), NONE);
        none.setWay(0, FORWARD);
        Edge.due("three on 80 without a commit", none.land(0, 2), 3);
        Edge.due("twenty", chain(20).land(0, 19), 20);
        ReviewForge outdated = inConflict();
        outdated.takeSet(0, 0);
        House.openWithMore(outdated, 2, 1, 1);
        outdated.takeSet(0, 0);
        outdated.upload(0, 0);
        outdated.setTopic(3, 0);
        Edge.due("an outdated one comes ahead of a conflict", outdated.land(0, 2), 0);
    }

    private static void names() {
        Edge.says("The commits that are new on the trunk by that are named after the changes for which they came.");
        ReviewForge forge = chain(2);
        forge.setWay(0, FORWARD);
        forge.takeSet(1, 0);
        forge.upload(0, 1);
        forge.land(0, 1);
        Edge.due("the patch sets that are on it", namesFrom(forge, 0), "-1 -1 0 -1 1");
        ReviewForge pick = chain(2);
        pick.land(0, 1);
        Edge.due("the new commits, not the patch sets", namesFrom(pick, 0), "-1 -1 -1 -1 0 1");
        ReviewForge squash = chain(2);
        squash.setWay(0, SQUASH);
        squash.land(0, 1);
        Edge.due("after the one for which there is one", namesFrom(squash, 0), "-1 -1 -1 -1 1");
    }

    private static void ways() {
        Edge.says("Each repository has a way to land, PICK at first:");
        ReviewForge forge = new ReviewForge();
        Edge.due("of the repository 0", forge.setWay(0, FORWARD), PICK);
        Edge.due("of the repository 1", forge.setWay(1, SQUASH), PICK);
        Edge.says(45, "Returns the way before.");
        Edge.due("the least one", forge.setWay(0, SQUASH), FORWARD);
        Edge.due("the greatest one", forge.setWay(1, PICK), SQUASH);
        Edge.says(45, "Throws `IndexOutOfBoundsException` if there is no such repository");
        Edge.index("one behind, and no way", () -> row(1), some -> some.setWay(2, 3));
        Edge.index("one ahead", () -> row(1), some -> some.setWay(-1, 0));
        Edge.says(45, "Throws `IllegalArgumentException` if there is no such way");
        Edge.argument("one behind", () -> row(1), some -> some.setWay(0, 3));
        Edge.argument("one ahead", () -> row(1), some -> some.setWay(1, -1));
    }

    private static ReviewForge ended(boolean isLanded) {
        ReviewForge forge = row(2);
        if (isLanded) {
            forge.land(0, 0);
        } else {
            forge.abandon(0, 0);
        }
        return forge;
    }

    private static void groupRefused() {
        Edge.says(46, "Returns the changes, as a set: the bit c for the change c; it among them.");
        Edge.due("the change 0", row(20).group(0), 1);
        Edge.due("the change 19", row(20).group(19), 1 << 19);
        Edge.says(46, "Throws `IndexOutOfBoundsException` if there is no such change");
        Edge.index("one behind", () -> row(2), forge -> forge.group(2));
        Edge.index("one ahead", () -> row(2), forge -> forge.group(-1));
        Edge.says(46, "Throws `IllegalStateException` if it is not OPEN");
        Edge.state("landed", () -> ended(true), forge -> forge.group(0));
        Edge.state("abandoned", () -> ended(false), forge -> forge.group(0));
    }

    private static ReviewForge hidden() {
        ReviewForge forge = chain(2);
        forge.addReviewer(2, 1);
        forge.setFlags(1, false, true);
        return forge;
    }

    private static void landRefused() {
        Edge.says(47, "Throws `IndexOutOfBoundsException` if there is no such person or change");
        Edge.index("a person behind", () -> row(2), forge -> forge.land(6, 0));
        Edge.index("a person ahead", () -> row(2), forge -> forge.land(-1, 0));
        Edge.index("a change behind", () -> row(2), forge -> forge.land(0, 2));
        Edge.index("a change ahead", () -> row(2), forge -> forge.land(0, -1));
        Edge.index("a person behind, landed", () -> ended(true), forge -> forge.land(6, 0));
        Edge.says(47, "Throws `IllegalStateException` if the change is not OPEN, or the person cannot see it");
        Edge.state("landed", () -> ended(true), forge -> forge.land(0, 0));
        Edge.state("abandoned", () -> ended(false), forge -> forge.land(0, 0));
        Edge.state("not seen", LandingEdges::hidden, forge -> forge.land(1, 1));
        Edge.allowed("its owner", LandingEdges::hidden, forge -> forge.land(0, 1));
        Edge.allowed("a reviewer", LandingEdges::hidden, forge -> forge.land(2, 1));
        Edge.allowed("one of the group is not seen", () -> {
            ReviewForge forge = chain(2);
            forge.setFlags(0, false, true);
            return forge;
        }, forge -> forge.land(1, 1));
    }
}
