/** The boundary cases of votes: promises 38 to 40. */
final class VoteEdges {
    private static final int REVIEW = ReviewForge.REVIEW;
    private static final int VERIFY = ReviewForge.VERIFY;
    private static final int REWORK = ReviewForge.REWORK;
    private static final int TRIVIAL = ReviewForge.TRIVIAL;
    private static final int SAME = ReviewForge.SAME;

    private VoteEdges() {
    }

    static void run() {
        labels();
        votesInPlace();
        worthOfAVote();
        copiedAtFirst();
        copiedValues();
        votesForAChange();
        voteRefused();
        worthRefused();
        copyingRefused();
    }

    private static ReviewForge changes(int many) {
        ReviewForge forge = new ReviewForge();
        while (forge.changes() < many) {
            forge.open(0);
        }
        return forge;
    }

    private static void labels() {
        Edge.says("There are two labels: REVIEW, from -2 to 2, and VERIFY, from -1 to 1.");
        for (int value = -2; value <= 2; value++) {
            Edge.due("REVIEW", changes(1).vote(1, 0, 0, REVIEW, value), value);
        }
        for (int value = -1; value <= 1; value++) {
            Edge.due("VERIFY", changes(1).vote(1, 0, 0, VERIFY, value), value);
        }
        int[] wrong = {-3, 3};
        for (int value : wrong) {
            Edge.argument("REVIEW " + value, () -> changes(1), forge -> forge.vote(1, 0, 0, REVIEW, value));
            Edge.argument("VERIFY " + value / 2 * 2, () -> changes(1), forge -> forge.vote(1, 0, 0, VERIFY, value / 2 * 2));
        }
        ReviewForge forge = changes(1);
        for (int person = 0; person < 6; person++) {
            forge.vote(person, 0, 0, REVIEW, person % 5 - 2);
            forge.vote(person, 0, 0, VERIFY, person % 3 - 1);
        }
        for (int person = 0; person < 6; person++) {
            Edge.due("each person its own", forge.worth(person, 0, 0, REVIEW), person % 5 - 2);
            Edge.due("each label its own", forge.worth(person, 0, 0, VERIFY), person % 3 - 1);
        }
    }

    private static void votesInPlace() {
        Edge.says("A person votes on a patch set, the current one or an older one, in place of its vote there.");
        ReviewForge forge = changes(1);
        forge.upload(0, 0);
        forge.upload(0, 0);
        forge.vote(1, 0, 2, REVIEW, 1);
        forge.vote(1, 0, 0, REVIEW, 2);
        Edge.due("on the current one", forge.worth(1, 0, 2, REVIEW), 1);
        Edge.due("on the first one", forge.worth(1, 0, 0, REVIEW), 2);
        Edge.due("in between by the first one", forge.worth(1, 0, 1, REVIEW), 2);
        forge.vote(1, 0, 2, REVIEW, -2);
        Edge.due("in place of it", forge.worth(1, 0, 2, REVIEW), -2);
        Edge.due("there alone", forge.worth(1, 0, 0, REVIEW), 2);
        ReviewForge last = changes(1);
        while (last.commits() < 80) {
            last.upload(0, 0);
        }
        Edge.due("on the last there can be", last.vote(5, 0, 77, VERIFY, 1), 1);
        Edge.due("it is there", last.worth(5, 0, 77, VERIFY), 1);
        Edge.due("not ahead of it", last.worth(5, 0, 76, VERIFY), 0);
        Edge.due("on the first, copied to the last", last.vote(4, 0, 0, REVIEW, -2), -2);
    }

    private static void worthOfAVote() {
        Edge.says("What a vote is worth on a patch set: if the person has voted on it, that; otherwise, if it is the first one, 0;"
                + " otherwise what it is worth on the one before, if it is copied, and 0 if not.");
        ReviewForge forge = changes(1);
        for (int kind = 0; kind < 3; kind++) {
            forge.setCopied(REVIEW, kind, 31);
            forge.setCopied(VERIFY, kind, 31);
        }
        Edge.due("the first one, no vote", forge.worth(1, 0, 0, REVIEW), 0);
        forge.upload(0, 0);
        Edge.due("the next one, no vote", forge.worth(1, 0, 1, REVIEW), 0);
        forge.vote(1, 0, 0, REVIEW, 2);
        Edge.due("copied", forge.worth(1, 0, 1, REVIEW), 2);
        forge.vote(1, 0, 1, REVIEW, 0);
        Edge.due("a vote of 0 is that", forge.worth(1, 0, 1, REVIEW), 0);
        forge.put(0, 0, 1);
        forge.upload(0, 0);
        forge.upload(0, 0);
        forge.vote(2, 0, 1, REVIEW, 1);
        Edge.due("copied twice", forge.worth(2, 0, 3, REVIEW), 1);
        Edge.due("not ahead of it", forge.worth(2, 0, 0, REVIEW), 0);
        forge.setCopied(REVIEW, REWORK, 31 - 8);
        Edge.due("not copied to the REWORK", forge.worth(2, 0, 2, REVIEW), 0);
        Edge.due("nor behind that", forge.worth(2, 0, 3, REVIEW), 0);
        forge.setCopied(REVIEW, REWORK, 0);
        forge.setCopied(REVIEW, SAME, 0);
        Edge.due("the first one is asked for no copy", forge.worth(1, 0, 0, REVIEW), 2);
    }

    /** A change 1 with a vote on its first patch set, and a second one of that kind. */
    private static ReviewForge voted(int kind, int label, int value) {
        ReviewForge forge = changes(2);
        forge.vote(1, 1, 0, label, value);
        forge.take(kind == TRIVIAL ? 2 : 0);
        if (kind == REWORK) {
            forge.put(0, 0, 1);
        }
        forge.upload(0, 1);
        Edge.due("the kind", forge.kindOf(1, 1), kind);
        return forge;
    }

    private static void copiedAtFirst() {
        Edge.says("For each label and each kind of patch sets it is told which values are copied to such ones; at first all of the"
                + " label for SAME, for TRIVIAL its greatest and its least one, for REWORK the least one (so 31, 17 and 1 for"
                + " REVIEW, and 14, 10 and 2 for VERIFY, as setCopied() tells them).");
        int[][] copied = {{1, 17, 31}, {2, 10, 14}};
        for (int label = 0; label < 2; label++) {
            for (int kind = 0; kind < 3; kind++) {
                Edge.due("the values", new ReviewForge().setCopied(label, kind, 0), copied[label][kind]);
                for (int value = label - 2; value <= 2 - label; value++) {
                    boolean isCopied = (copied[label][kind] >> value + 2 & 1) == 1;
                    Edge.due("label " + label + ", kind " + kind, voted(kind, label, value).worth(1, 1, 1, label), isCopied ? value : 0);
                }
            }
        }
    }

    private static void copiedValues() {
        Edge.says(40, "- `values`: a set, 0 to 31: the bit v + 2 for the value v");
        for (int value = -2; value <= 2; value++) {
            ReviewForge forge = voted(REWORK, REVIEW, value);
            forge.setCopied(REVIEW, REWORK, 1 << value + 2);
            Edge.due("its bit", forge.worth(1, 1, 1, REVIEW), value);
            forge.setCopied(REVIEW, REWORK, 31 - (1 << value + 2));
            Edge.due("all but its bit", forge.worth(1, 1, 1, REVIEW), 0);
            forge.setCopied(VERIFY, REWORK, 31);
            forge.setCopied(REVIEW, TRIVIAL, 31);
            forge.setCopied(REVIEW, SAME, 31);
            Edge.due("another label, or another kind", forge.worth(1, 1, 1, REVIEW), 0);
        }
        Edge.says(40, "Returns the values before.");
        ReviewForge forge = new ReviewForge();
        forge.setCopied(VERIFY, SAME, 0);
        Edge.due("none", forge.setCopied(VERIFY, SAME, 31), 0);
        Edge.due("all", forge.setCopied(VERIFY, SAME, 1), 31);
    }

    private static void votesForAChange() {
        Edge.says("Votes for a change are what they are worth on its current patch set.");
        ReviewForge forge = voted(REWORK, VERIFY, 1);
        Edge.due("what is not copied does not count", forge.statements(1) & 4, 0);
        forge.vote(1, 1, 1, VERIFY, 1);
        Edge.due("on the current one", forge.statements(1) & 4, 4);
        forge.vote(1, 1, 0, VERIFY, -1);
        Edge.due("an older one does not count beside it", forge.statements(1) & 4, 4);
        forge.upload(0, 1);
        Edge.due("a copied one does", forge.statements(1) & 4, 4);
    }

    private static ReviewForge hidden() {
        ReviewForge forge = changes(1);
        forge.addReviewer(2, 0);
        forge.vote(3, 0, 0, REVIEW, 0);
        forge.setFlags(0, false, true);
        return forge;
    }

    private static ReviewForge ended(boolean isLanded) {
        ReviewForge forge = House.allReady(changes(1));
        if (isLanded) {
            forge.land(0, 0);
        } else {
            forge.abandon(0, 0);
        }
        return forge;
    }

    private static void voteRefused() {
        Edge.says(38, "Returns what the vote of the person is worth on the current patch set then.");
        ReviewForge forge = voted(REWORK, REVIEW, 2);
        Edge.due("on the current one", forge.vote(1, 1, 1, REVIEW, 1), 1);
        Edge.due("on an older one, beside that", forge.vote(1, 1, 0, REVIEW, -2), 1);
        Edge.due("on an older one, copied", forge.vote(2, 1, 0, REVIEW, -2), -2);
        Edge.due("on an older one, not copied", forge.vote(2, 1, 0, REVIEW, -1), 0);
        Edge.says(38, "Throws `IndexOutOfBoundsException` if there is no such person, change or patch set");
        Edge.index("a person behind, no label", () -> changes(1), some -> some.vote(6, 0, 0, 2, 0));
        Edge.index("a person ahead", () -> changes(1), some -> some.vote(-1, 0, 0, 0, 0));
        Edge.index("a change behind", () -> changes(1), some -> some.vote(0, 1, 0, 0, 0));
        Edge.index("a change ahead", () -> changes(1), some -> some.vote(0, -1, 0, 0, 0));
        Edge.index("a set behind, no value", () -> changes(1), some -> some.vote(0, 0, 1, 0, 3));
        Edge.index("a set ahead, not open", () -> ended(true), some -> some.vote(0, 0, -1, 0, 0));
        Edge.says(38, "Throws `IllegalArgumentException` if there is no such label, or value is out of range");
        Edge.argument("a label behind", () -> changes(1), some -> some.vote(0, 0, 0, 2, 0));
        Edge.argument("a label ahead", () -> changes(1), some -> some.vote(0, 0, 0, -1, 0));
        Edge.argument("3 in REVIEW", () -> changes(1), some -> some.vote(0, 0, 0, REVIEW, 3));
        Edge.argument("-3 in REVIEW", () -> changes(1), some -> some.vote(0, 0, 0, REVIEW, -3));
        Edge.argument("2 in VERIFY", () -> changes(1), some -> some.vote(0, 0, 0, VERIFY, 2));
        Edge.argument("-2 in VERIFY", () -> changes(1), some -> some.vote(0, 0, 0, VERIFY, -2));
        Edge.argument("far above", () -> changes(1), some -> some.vote(0, 0, 0, VERIFY, Integer.MAX_VALUE));
        Edge.argument("far below", () -> changes(1), some -> some.vote(0, 0, 0, REVIEW, Integer.MIN_VALUE));
        Edge.argument("also if it is abandoned", () -> ended(false), some -> some.vote(0, 0, 0, REVIEW, 3));
        Edge.argument("also if it is not seen", VoteEdges::hidden, some -> some.vote(1, 0, 0, 2, 0));
        Edge.says(38, "Throws `IllegalStateException` if the change is not OPEN, or the person cannot see it");
        Edge.state("abandoned", () -> ended(false), some -> some.vote(0, 0, 0, REVIEW, 0));
        Edge.state("landed", () -> ended(true), some -> some.vote(0, 0, 0, REVIEW, 0));
        Edge.state("not seen", VoteEdges::hidden, some -> some.vote(1, 0, 0, REVIEW, 1));
        Edge.allowed("its owner", VoteEdges::hidden, some -> some.vote(0, 0, 0, REVIEW, 1));
        Edge.allowed("who was added", VoteEdges::hidden, some -> some.vote(2, 0, 0, REVIEW, 1));
        Edge.allowed("who has voted", VoteEdges::hidden, some -> some.vote(3, 0, 0, REVIEW, 1));
    }

    private static void worthRefused() {
        Edge.says(39, "Returns the value.");
        Edge.due("no vote", changes(1).worth(5, 0, 0, VERIFY), 0);
        Edge.due("the least one", voted(SAME, REVIEW, -2).worth(1, 1, 1, REVIEW), -2);
        Edge.due("the greatest one", voted(SAME, REVIEW, 2).worth(1, 1, 1, REVIEW), 2);
        Edge.says(39, "Throws `IndexOutOfBoundsException` if there is no such person, change or patch set");
        Edge.index("a person behind, no label", () -> changes(1), some -> some.worth(6, 0, 0, 2));
        Edge.index("a person ahead", () -> changes(1), some -> some.worth(-1, 0, 0, 0));
        Edge.index("a change behind", () -> changes(1), some -> some.worth(0, 1, 0, 0));
        Edge.index("a change ahead", () -> changes(1), some -> some.worth(0, -1, 0, 0));
        Edge.index("a set behind, no label", () -> changes(1), some -> some.worth(0, 0, 1, -1));
        Edge.index("a set ahead", () -> changes(1), some -> some.worth(0, 0, -1, 0));
        Edge.says(39, "Throws `IllegalArgumentException` if there is no such label");
        Edge.argument("one behind", () -> changes(1), some -> some.worth(0, 0, 0, 2));
        Edge.argument("one ahead", () -> changes(1), some -> some.worth(0, 0, 0, -1));
        Edge.allowed("also if it is not seen", VoteEdges::hidden, some -> some.worth(1, 0, 0, VERIFY));
    }

    private static void copyingRefused() {
        Edge.says(40, "Throws `IllegalArgumentException` if there is no such label or kind, or values is out of range");
        Edge.argument("a label behind", () -> changes(1), some -> some.setCopied(2, SAME, 0));
        Edge.argument("a label ahead", () -> changes(1), some -> some.setCopied(-1, SAME, 0));
        Edge.argument("a kind behind", () -> changes(1), some -> some.setCopied(VERIFY, 3, 0));
        Edge.argument("a kind ahead", () -> changes(1), some -> some.setCopied(REVIEW, -1, 0));
        Edge.argument("a kind ahead, of VERIFY", () -> changes(1), some -> some.setCopied(VERIFY, -1, 0));
        Edge.argument("a kind behind, of REVIEW", () -> changes(1), some -> some.setCopied(REVIEW, 3, 0));
        Edge.argument("values above all", () -> changes(1), some -> some.setCopied(REVIEW, SAME, 32));
        Edge.argument("values below none", () -> changes(1), some -> some.setCopied(REVIEW, SAME, -1));
        Edge.allowed("all for VERIFY", () -> changes(1), some -> some.setCopied(VERIFY, REWORK, 31));
        Edge.allowed("none", () -> changes(1), some -> some.setCopied(REVIEW, SAME, 0));
    }
}
