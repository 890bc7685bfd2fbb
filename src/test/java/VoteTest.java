/** Promises 38 to 44: votes and requirements. */
public final class VoteTest {
    private static final int REVIEW = ReviewForge.REVIEW;
    private static final int VERIFY = ReviewForge.VERIFY;

    public static void main(String[] args) {
        votes();
        votesRefused();
        copiesAtFirst();
        copiesThatAreSet();
        anOlderPatchSet();
        facts();
        ownersWhoVote();
        rules();
        rulesInCircles();
        rulesRefused();
        twentyRules();
        whatIsLacking();
        Expect.finish("VoteTest");
    }

    private static void votes() {
        ReviewForge forge = new ReviewForge();
        forge.open(0);
        forge.upload(0, 0);
        Expect.due(38, "vote", forge.vote(1, 0, 1, REVIEW, 2), 2);
        Expect.due(38, "in place of it", forge.vote(1, 0, 1, REVIEW, -1), -1);
        Expect.due(38, "the other label", forge.vote(1, 0, 1, VERIFY, 1), 1);
        Expect.due(38, "the owner votes as well", forge.vote(0, 0, 1, REVIEW, 1), 1);
        Expect.due(39, "worth", forge.worth(1, 0, 1, REVIEW), -1);
        Expect.due(39, "the other label", forge.worth(1, 0, 1, VERIFY), 1);
        Expect.due(39, "the set before", forge.worth(1, 0, 0, REVIEW), 0);
        Expect.due(39, "somebody else", forge.worth(2, 0, 1, REVIEW), 0);
        Expect.due(39, "the owner", forge.worth(0, 0, 1, REVIEW), 1);
        Expect.due(38, "who votes is a reviewer, but the owner", forge.reviewers(0), 2);
        Expect.due(38, "0 as well", forge.vote(3, 0, 0, REVIEW, 0), 0);
        Expect.due(38, "who votes 0 is a reviewer", forge.reviewers(0), 10);
        Expect.due(38, "-2", forge.vote(1, 0, 1, REVIEW, -2), -2);
        Expect.due(38, "-1", forge.vote(1, 0, 1, VERIFY, -1), -1);
    }

    private static void votesRefused() {
        ReviewForge forge = new ReviewForge();
        forge.open(0);
        Expect.index(38, forge, "no such person", () -> forge.vote(6, 0, 0, 2, 0));
        Expect.index(38, forge, "no such person", () -> forge.vote(-1, 0, 0, 0, 0));
        Expect.index(38, forge, "no such change", () -> forge.vote(1, 1, 0, 2, 0));
        Expect.index(38, forge, "no such change", () -> forge.vote(1, -1, 0, 0, 0));
        Expect.index(38, forge, "no such set", () -> forge.vote(1, 0, 1, 2, 0));
        Expect.index(38, forge, "no such set", () -> forge.vote(1, 0, -1, 0, 0));
        Expect.argument(38, forge, "no such label", () -> forge.vote(1, 0, 0, 2, 0));
        Expect.argument(38, forge, "no such label", () -> forge.vote(1, 0, 0, -1, 0));
        Expect.argument(38, forge, "3 in REVIEW", () -> forge.vote(1, 0, 0, REVIEW, 3));
        Expect.argument(38, forge, "-3 in REVIEW", () -> forge.vote(1, 0, 0, REVIEW, -3));
        Expect.argument(38, forge, "2 in VERIFY", () -> forge.vote(1, 0, 0, VERIFY, 2));
        Expect.argument(38, forge, "-2 in VERIFY", () -> forge.vote(1, 0, 0, VERIFY, -2));
        forge.setFlags(0, false, true);
        Expect.state(38, forge, "not seen", () -> forge.vote(1, 0, 0, REVIEW, 1));
        Expect.argument(38, forge, "not seen, no such value", () -> forge.vote(1, 0, 0, REVIEW, 3));
        forge.setFlags(0, false, false);
        forge.abandon(0, 0);
        Expect.state(38, forge, "abandoned", () -> forge.vote(1, 0, 0, REVIEW, 1));
        Expect.index(39, forge, "no such person", () -> forge.worth(6, 0, 0, 2));
        Expect.index(39, forge, "no such person", () -> forge.worth(-1, 0, 0, 0));
        Expect.index(39, forge, "no such change", () -> forge.worth(0, 1, 0, 2));
        Expect.index(39, forge, "no such change", () -> forge.worth(0, -1, 0, 0));
        Expect.index(39, forge, "no such set", () -> forge.worth(0, 0, 1, 2));
        Expect.index(39, forge, "no such set", () -> forge.worth(0, 0, -1, 0));
        Expect.argument(39, forge, "no such label", () -> forge.worth(0, 0, 0, 2));
        Expect.argument(39, forge, "no such label", () -> forge.worth(0, 0, 0, -1));
    }

    /** Opens a change with a patch set 1 of that kind. */
    private static ReviewForge withKind(int kind) {
        ReviewForge forge = new ReviewForge();
        forge.open(0);
        forge.open(0);
        if (kind == ReviewForge.TRIVIAL) {
            forge.take(2);
        } else if (kind == ReviewForge.REWORK) {
            forge.put(0, 0, 1);
        }
        return forge;
    }

    private static void copiesAtFirst() {
        for (int kind = 0; kind < 3; kind++) {
            for (int value = -2; value <= 2; value++) {
                ReviewForge forge = withKind(kind);
                forge.vote(1, 1, 0, REVIEW, value);
                boolean isVerifying = value > -2 && value < 2;
                forge.vote(1, 1, 0, VERIFY, isVerifying ? value : 0);
                forge.upload(0, 1);
                Expect.due(22, "the kind", forge.kindOf(1, 1), kind);
                boolean isCopied = kind == ReviewForge.SAME || value == -2 || kind == ReviewForge.TRIVIAL && value == 2;
                Expect.due(39, "copied at first", forge.worth(1, 1, 1, REVIEW), isCopied ? value : 0);
                boolean isVerifyCopied = kind != ReviewForge.REWORK || value == -1;
                int due = isVerifyCopied && isVerifying ? value : 0;
                Expect.due(39, "copied at first", forge.worth(1, 1, 1, VERIFY), due);
            }
        }
        ReviewForge forge = new ReviewForge();
        int[] want = {1, 17, 31, 2, 10, 14};
        for (int label = 0; label < 2; label++) {
            for (int kind = 0; kind < 3; kind++) {
                Expect.due(40, "setCopied", forge.setCopied(label, kind, 0), want[3 * label + kind]);
                Expect.due(40, "setCopied again", forge.setCopied(label, kind, 31), 0);
                Expect.due(40, "setCopied again", forge.setCopied(label, kind, 3), 31);
            }
        }
    }

    private static void copiesThatAreSet() {
        ReviewForge forge = withKind(ReviewForge.REWORK);
        forge.vote(1, 1, 0, REVIEW, 1);
        forge.vote(2, 1, 0, REVIEW, -2);
        forge.upload(0, 1);
        forge.upload(0, 1);
        Expect.due(39, "1 is not copied", forge.worth(1, 1, 2, REVIEW), 0);
        Expect.due(39, "-2 is", forge.worth(2, 1, 2, REVIEW), -2);
        forge.setCopied(REVIEW, ReviewForge.REWORK, 8);
        Expect.due(40, "now it is", forge.worth(1, 1, 1, REVIEW), 1);
        Expect.due(40, "and goes on to the SAME", forge.worth(1, 1, 2, REVIEW), 1);
        Expect.due(40, "the other one is not", forge.worth(2, 1, 1, REVIEW), 0);
        Expect.due(40, "what is not copied does not come back", forge.worth(2, 1, 2, REVIEW), 0);
        forge.setCopied(REVIEW, ReviewForge.SAME, 0);
        Expect.due(40, "not to the SAME", forge.worth(1, 1, 2, REVIEW), 0);
        Expect.argument(40, forge, "no such label", () -> forge.setCopied(2, 0, 0));
        Expect.argument(40, forge, "no such label", () -> forge.setCopied(-1, 0, 0));
        Expect.argument(40, forge, "no such kind", () -> forge.setCopied(0, 3, 0));
        Expect.argument(40, forge, "no such kind", () -> forge.setCopied(0, -1, 0));
        Expect.argument(40, forge, "no such values", () -> forge.setCopied(0, 0, 32));
        Expect.argument(40, forge, "no such values", () -> forge.setCopied(0, 0, -1));
        Expect.due(40, "the values of VERIFY go up to 31 too", forge.setCopied(VERIFY, 0, 31), 2);
    }

    private static void anOlderPatchSet() {
        ReviewForge forge = withKind(ReviewForge.SAME);
        forge.upload(0, 1);
        forge.upload(0, 1);
        Expect.due(38, "a vote on an older one is copied", forge.vote(1, 1, 0, REVIEW, 2), 2);
        Expect.due(38, "a vote in between", forge.vote(1, 1, 1, REVIEW, 1), 1);
        Expect.due(39, "on the first one", forge.worth(1, 1, 0, REVIEW), 2);
        Expect.due(38, "a vote 0 stands in the way", forge.vote(1, 1, 2, REVIEW, 0), 0);
        Expect.due(38, "and stays there", forge.vote(1, 1, 1, REVIEW, -1), 0);
        Expect.due(39, "in between", forge.worth(1, 1, 1, REVIEW), -1);
    }

    private static void facts() {
        ReviewForge forge = new ReviewForge();
        forge.setOwners(0, 6, 6, false);
        forge.put(0, 0, 1);
        forge.put(3, 0, 1);
        forge.open(0);
        Expect.due(43, "at first 1, 3 and 6", forge.statements(0), 2 + 8 + 64);
        forge.vote(1, 0, 0, REVIEW, 2);
        Expect.due(43, "0 and 7", forge.statements(0), 1 + 2 + 8 + 64 + 128);
        forge.vote(2, 0, 0, VERIFY, 1);
        Expect.due(43, "2 and 15", forge.statements(0), 32768 + 1 + 2 + 4 + 8 + 64 + 128);
        forge.vote(3, 0, 0, VERIFY, -1);
        Expect.due(43, "not 2", forge.statements(0), 1 + 2 + 8 + 64 + 128);
        forge.vote(3, 0, 0, VERIFY, 0);
        forge.vote(0, 0, 0, REVIEW, -2);
        Expect.due(43, "not 1", forge.statements(0), 1 + 4 + 8 + 64 + 128);
        forge.upload(1, 0);
        Expect.due(43, "the one who votes 2 has uploaded", forge.statements(0), 1 + 4 + 8 + 64);
        forge.vote(0, 0, 1, REVIEW, 2);
        Expect.due(43, "the owner has not", forge.statements(0), 32768 + 1 + 2 + 4 + 8 + 64 + 128);
        forge.take(3);
        forge.put(1, 0, 1);
        forge.open(5);
        Expect.due(43, "the parent is open", forge.statements(1), 2 + 8);
        forge.vote(5, 1, 0, REVIEW, 2);
        Expect.due(43, "7 not by who has uploaded", forge.statements(1), 2 + 8);
        forge.land(0, 0);
        Expect.due(43, "the parent has landed", forge.statements(1), 2 + 8 + 64);
        forge.take(4);
        forge.open(3);
        forge.take(6);
        forge.open(3);
        forge.abandon(3, 2);
        Expect.due(43, "nothing is changed, the parent is abandoned", forge.statements(3), 1 + 2 + 8);
        Expect.index(43, forge, "no such change", () -> forge.statements(4));
        Expect.index(43, forge, "no such change", () -> forge.statements(-1));
    }

    private static void ownersWhoVote() {
        ReviewForge forge = new ReviewForge();
        forge.setOwners(0, 0, 1 + 2, false);
        forge.setOwners(0, 1, 4, false);
        forge.put(0, 0, 1);
        forge.put(1, 0, 1);
        forge.open(0);
        forge.vote(0, 0, 0, REVIEW, 2);
        forge.vote(2, 0, 0, REVIEW, 2);
        Expect.due(43, "the owner of the change does not count", forge.statements(0) & 1, 0);
        forge.vote(1, 0, 0, REVIEW, 1);
        Expect.due(43, "1 does not suffice", forge.statements(0) & 1, 0);
        forge.vote(1, 0, 0, REVIEW, 2);
        Expect.due(43, "each file has one", forge.statements(0) & 1, 1);
        forge.setOwners(0, 1, 8, false);
        Expect.due(43, "one has none", forge.statements(0) & 1, 0);
        forge.cut(1, 0);
        forge.setCopied(REVIEW, ReviewForge.REWORK, 31);
        forge.upload(0, 0);
        Expect.due(43, "that one is not changed", forge.statements(0) & 1, 1);
    }

    private static void rules() {
        ReviewForge forge = new ReviewForge();
        forge.open(0);
        Expect.due(43, "0, 1, 3 and 6", forge.statements(0), 75);
        Expect.due(41, "addRule", forge.addRule(8, 1 + 2, 4), 1);
        Expect.due(43, "8", forge.statements(0), 75 + 256);
        Expect.due(41, "addRule", forge.addRule(9, 256, 512 << 1), 2);
        Expect.due(43, "9", forge.statements(0), 75 + 256 + 512);
        Expect.due(41, "addRule", forge.addRule(10, 1, 16), 3);
        Expect.due(43, "10, so not 9", forge.statements(0), 75 + 256 + 1024);
        forge.setFlags(0, true, false);
        Expect.due(43, "not 10, so 9", forge.statements(0), 75 + 16 + 256 + 512);
        Expect.due(41, "another rule for it", forge.addRule(10, 16, 0), 4);
        Expect.due(43, "10 again", forge.statements(0), 75 + 16 + 256 + 1024);
        Expect.due(42, "dropRule(4)", forge.dropRule(4), 10);
        Expect.due(43, "not 10, so 9", forge.statements(0), 75 + 16 + 256 + 512);
        Expect.due(42, "dropRule(0)", forge.dropRule(0), 15);
        Expect.due(41, "a rule without conditions", forge.addRule(15, 0, 0), 5);
        Expect.due(43, "15", forge.statements(0), 75 + 16 + 256 + 512 + 32768);
        Expect.due(41, "a rule that is never met", forge.addRule(11, 1, 1), 6);
        Expect.due(43, "not 11", forge.statements(0), 75 + 16 + 256 + 512 + 32768);
        Expect.index(42, forge, "dropped already", () -> forge.dropRule(0));
        Expect.index(42, forge, "no such rule", () -> forge.dropRule(7));
        Expect.index(42, forge, "no such rule", () -> forge.dropRule(-1));
    }

    private static void rulesInCircles() {
        ReviewForge forge = new ReviewForge();
        forge.open(0);
        Expect.due(41, "8 from 9", forge.addRule(8, 512, 0), 1);
        Expect.due(41, "9 from 8", forge.addRule(9, 256, 0), 2);
        Expect.due(43, "neither follows", forge.statements(0), 75);
        Expect.due(41, "10 if not 8", forge.addRule(10, 0, 256), 3);
        Expect.due(43, "10", forge.statements(0), 75 + 1024);
        Expect.due(41, "9 from 1", forge.addRule(9, 2, 0), 4);
        Expect.due(43, "both follow", forge.statements(0), 75 + 256 + 512);
        Expect.due(41, "8 from 8", forge.addRule(8, 256, 0), 5);
        Expect.state(41, forge, "9 if not 10", () -> forge.addRule(9, 0, 1024));
        Expect.state(41, forge, "8 from 10", () -> forge.addRule(8, 1024, 0));
        Expect.due(41, "11 if not 10", forge.addRule(11, 0, 1024), 6);
        Expect.due(43, "11", forge.statements(0), 75 + 256 + 512 + 2048);
        Expect.due(42, "dropRule(3)", forge.dropRule(3), 10);
        Expect.due(41, "9 if not 10, now", forge.addRule(9, 0, 1024), 7);
        Expect.state(41, forge, "10 if not 8, not any more", () -> forge.addRule(10, 0, 256));
        Expect.due(41, "a long chain", forge.addRule(12, 0, 2048), 8);
        forge.addRule(13, 0, 4096);
        forge.addRule(14, 0, 8192);
        forge.addRule(15, 0, 16384);
        Expect.due(43, "11, 13 and 15", forge.statements(0), 75 + 256 + 512 + 2048 + 8192 + 32768);
        Expect.state(41, forge, "11 from 15", () -> forge.addRule(11, 32768, 0));
        Expect.due(41, "8 from 9 again", forge.addRule(8, 512 + 65535 - 65280, 0), 12);
    }

    private static void rulesRefused() {
        ReviewForge forge = new ReviewForge();
        forge.open(0);
        Expect.argument(41, forge, "a fact", () -> forge.addRule(7, 0, 0));
        Expect.argument(41, forge, "no statement", () -> forge.addRule(16, 0, 0));
        Expect.argument(41, forge, "no statement", () -> forge.addRule(-1, 0, 0));
        Expect.argument(41, forge, "must", () -> forge.addRule(8, 65536, 256));
        Expect.argument(41, forge, "must", () -> forge.addRule(8, -1, 0));
        Expect.argument(41, forge, "mustNot", () -> forge.addRule(8, 0, 65536));
        Expect.argument(41, forge, "mustNot", () -> forge.addRule(8, 0, -1));
        Expect.state(41, forge, "on itself", () -> forge.addRule(8, 0, 256));
        Expect.state(41, forge, "on itself, also where it must hold", () -> forge.addRule(8, 256, 256));
        Expect.state(41, forge, "15 on itself", () -> forge.addRule(15, 0, 65535));
        Expect.due(41, "what was refused has no number", forge.addRule(8, 65535, 0), 1);
        Expect.state(41, forge, "9 of 8 of all", () -> forge.addRule(9, 0, 256));
    }

    private static void twentyRules() {
        ReviewForge forge = new ReviewForge();
        for (int rule = 1; rule < 20; rule++) {
            Expect.due(41, "addRule", forge.addRule(8, 0, 0), rule);
            Expect.due(42, "dropRule", forge.dropRule(rule), 8);
        }
        Expect.state(41, forge, "20 rules", () -> forge.addRule(8, 0, 0));
        Expect.argument(41, forge, "20 rules and a fact", () -> forge.addRule(7, 0, 0));
        Expect.due(42, "dropRule(0)", forge.dropRule(0), 15);
        Expect.state(41, forge, "dropped ones counted", () -> forge.addRule(8, 0, 0));
    }

    private static void whatIsLacking() {
        ReviewForge forge = new ReviewForge();
        forge.put(0, 0, 1);
        forge.open(0);
        Expect.due(44, "0 and 2", forge.lacks(0), 5);
        forge.setFlags(0, true, true);
        Expect.due(44, "4 and 5 as well", forge.lacks(0), 5 + 16 + 32);
        forge.vote(0, 0, 0, VERIFY, 1);
        Expect.due(44, "0, 4 and 5", forge.lacks(0), 1 + 16 + 32);
        forge.addRule(15, 128 + 16, 0);
        Expect.due(44, "7 suffices", forge.lacks(0), 128);
        forge.addRule(15, 1, 128);
        Expect.due(44, "of several the lowest", forge.lacks(0), 1);
        forge.addRule(9, 16, 0);
        forge.addRule(15, 512, 32);
        Expect.due(44, "1 is lower than 32", forge.lacks(0), 1);
        forge.dropRule(0);
        forge.dropRule(1);
        forge.dropRule(2);
        Expect.due(44, "32", forge.lacks(0), 32);
        forge.setFlags(0, true, false);
        Expect.due(44, "ready", forge.lacks(0), 0);
        forge.dropRule(4);
        Expect.due(44, "no rule for 15", forge.lacks(0), ReviewForge.NONE);
        forge.addRule(15, 1, 1);
        Expect.due(44, "none that can be met", forge.lacks(0), ReviewForge.NONE);
        forge.addRule(15, 256, 0);
        Expect.due(44, "nothing makes 8 hold", forge.lacks(0), ReviewForge.NONE);
        Expect.index(44, forge, "no such change", () -> forge.lacks(1));
        Expect.index(44, forge, "no such change", () -> forge.lacks(-1));
    }
}
