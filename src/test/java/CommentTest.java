/** Promises 26 to 30: comments, threads, and where they are shown. */
public final class CommentTest {
    private static final int NONE = ReviewForge.NONE;

    public static void main(String[] args) {
        draftsAndThreads();
        commentsRefused();
        answersRefused();
        publishing();
        sixtyComments();
        following();
        lostAndFound();
        soughtAtJustOnePlace();
        linesOfAnotherIndent();
        theGreatestNumberTells();
        wrongNumbers();
        Expect.finish("CommentTest");
    }

    private static ReviewForge withLines(int file, int... lines) {
        ReviewForge forge = new ReviewForge();
        House.fill(forge, file, lines);
        forge.open(0);
        return forge;
    }

    private static void draftsAndThreads() {
        ReviewForge forge = withLines(0, 1, 2, 3);
        Expect.due(26, "comment", forge.comment(1, 0, 0, 0, 1, 2, true), 0);
        Expect.due(29, "also drafts are shown", forge.shown(0, 0), 6);
        Expect.due(30, "a draft says nothing", forge.unresolved(0), 0);
        Expect.due(26, "drafting is no part", forge.reviewers(0), 0);
        Expect.due(28, "publish", forge.publish(1, 0), 1);
        Expect.due(30, "unresolved", forge.unresolved(0), 1);
        Expect.due(43, "3 does not hold", forge.statements(0) & 8, 0);
        Expect.due(28, "who publishes is a reviewer", forge.reviewers(0), 2);
        Expect.due(27, "answer", forge.answer(0, 0, false), 1);
        Expect.due(29, "an answer is on the same lines", forge.shown(1, 0), 6);
        Expect.due(30, "a draft says nothing", forge.unresolved(0), 1);
        Expect.due(28, "publish", forge.publish(0, 0), 1);
        Expect.due(30, "resolved", forge.unresolved(0), 0);
        Expect.due(43, "3 holds", forge.statements(0) & 8, 8);
        Expect.due(28, "the owner is no reviewer", forge.reviewers(0), 2);
        forge.comment(2, 0, 0, 0, 0, 1, true);
        forge.comment(2, 0, 0, 0, 2, 1, true);
        forge.comment(3, 0, 0, 0, 2, 1, true);
        Expect.due(28, "just those of the person", forge.publish(2, 0), 2);
        Expect.due(30, "two threads", forge.unresolved(0), 2);
    }

    private static void commentsRefused() {
        ReviewForge forge = withLines(3, 1, 2, 3);
        Expect.index(26, forge, "no such person", () -> forge.comment(6, 0, 0, 3, 0, 1, true));
        Expect.index(26, forge, "no such person", () -> forge.comment(-1, 0, 0, 3, 0, 1, true));
        Expect.index(26, forge, "no such change", () -> forge.comment(0, 1, 0, 3, 0, 1, true));
        Expect.index(26, forge, "no such change", () -> forge.comment(0, -1, 0, 3, 0, 1, true));
        Expect.index(26, forge, "no such set", () -> forge.comment(0, 0, 1, 3, 0, 1, true));
        Expect.index(26, forge, "no such set", () -> forge.comment(0, 0, -1, 3, 0, 1, true));
        Expect.index(26, forge, "no such file", () -> forge.comment(0, 0, 0, 4, 0, 0, true));
        Expect.index(26, forge, "no such file", () -> forge.comment(0, 0, 0, -1, 0, 0, true));
        Expect.argument(26, forge, "none", () -> forge.comment(0, 0, 0, 3, 0, 0, true));
        Expect.argument(26, forge, "fewer than none", () -> forge.comment(0, 0, 0, 3, 1, -1, true));
        Expect.argument(26, forge, "behind the end", () -> forge.comment(0, 0, 0, 3, 3, 1, true));
        Expect.argument(26, forge, "over the end", () -> forge.comment(0, 0, 0, 3, 2, 2, true));
        Expect.argument(26, forge, "ahead of the beginning", () -> forge.comment(0, 0, 0, 3, -1, 1, true));
        Expect.argument(26, forge, "far too many", () -> forge.comment(0, 0, 0, 3, 1, Integer.MAX_VALUE, true));
        Expect.argument(26, forge, "an empty file", () -> forge.comment(0, 0, 0, 0, 0, 1, true));
        forge.setFlags(0, false, true);
        Expect.argument(26, forge, "no lines, not seen", () -> forge.comment(1, 0, 0, 3, 0, 4, true));
        Expect.state(26, forge, "not seen", () -> forge.comment(1, 0, 0, 3, 0, 3, true));
        Expect.due(26, "the owner sees it", forge.comment(0, 0, 0, 3, 0, 3, true), 0);
        forge.abandon(0, 0);
        Expect.due(26, "also when it is abandoned", forge.comment(0, 0, 0, 3, 2, 1, true), 1);
        Expect.due(28, "also when it is abandoned", forge.publish(0, 0), 2);
    }

    private static void answersRefused() {
        ReviewForge forge = withLines(0, 1, 2, 3);
        forge.comment(1, 0, 0, 0, 0, 1, true);
        Expect.index(27, forge, "no such person", () -> forge.answer(6, 0, true));
        Expect.index(27, forge, "no such person", () -> forge.answer(-1, 0, true));
        Expect.index(27, forge, "no such comment", () -> forge.answer(0, 1, true));
        Expect.index(27, forge, "no such comment", () -> forge.answer(0, -1, true));
        Expect.state(27, forge, "a draft", () -> forge.answer(1, 0, true));
        forge.publish(1, 0);
        forge.answer(2, 0, true);
        Expect.state(27, forge, "an answer that is a draft", () -> forge.answer(1, 1, true));
        forge.publish(2, 0);
        Expect.state(27, forge, "an answer", () -> forge.answer(1, 1, true));
        forge.setFlags(0, false, true);
        Expect.state(27, forge, "not seen", () -> forge.answer(3, 0, true));
        Expect.due(27, "a reviewer sees it", forge.answer(2, 0, false), 2);
    }

    private static void publishing() {
        ReviewForge forge = withLines(0, 1, 2, 3);
        forge.open(1);
        Expect.state(28, forge, "no draft", () -> forge.publish(1, 0));
        forge.comment(1, 1, 0, 0, 0, 1, true);
        forge.comment(2, 0, 0, 0, 0, 1, true);
        Expect.state(28, forge, "no draft of this one for this change", () -> forge.publish(1, 0));
        Expect.index(28, forge, "no such person", () -> forge.publish(6, 0));
        Expect.index(28, forge, "no such person", () -> forge.publish(-1, 0));
        Expect.index(28, forge, "no such change", () -> forge.publish(0, 2));
        Expect.index(28, forge, "no such change", () -> forge.publish(0, -1));
        forge.setFlags(0, false, true);
        Expect.state(28, forge, "not seen any more", () -> forge.publish(2, 0));
        forge.setFlags(0, false, false);
        Expect.due(28, "publish", forge.publish(2, 0), 1);
        Expect.state(28, forge, "published already", () -> forge.publish(2, 0));
        Expect.due(28, "another change", forge.publish(1, 1), 1);
        forge.answer(3, 1, false);
        forge.comment(3, 0, 0, 0, 0, 3, true);
        Expect.due(28, "answers as well", forge.publish(3, 0), 2);
        Expect.due(30, "the one of them is resolved", forge.unresolved(0), 1);
        Expect.due(30, "the other change", forge.unresolved(1), 1);
    }

    private static void sixtyComments() {
        ReviewForge forge = withLines(0, 1, 2, 3);
        forge.comment(1, 0, 0, 0, 0, 1, true);
        forge.publish(1, 0);
        for (int number = 1; number < 60; number++) {
            int got = number % 2 == 0 ? forge.comment(2, 0, 0, 0, 0, 1, true) : forge.answer(2, 0, false);
            Expect.due(26, "comment or answer", got, number);
        }
        Expect.state(26, forge, "60 comments", () -> forge.comment(2, 0, 0, 0, 0, 1, true));
        Expect.state(27, forge, "60 comments", () -> forge.answer(2, 0, true));
        Expect.due(28, "publish", forge.publish(2, 0), 59);
        Expect.due(30, "unresolved", forge.unresolved(0), 29);
    }

    private static void following() {
        ReviewForge forge = withLines(2, 1, 2, 3, 4);
        forge.comment(1, 0, 0, 2, 1, 3, true);
        House.fill(forge, 2, 9, 1, 2, 8, 4);
        forge.upload(0, 0);
        Expect.due(29, "in its own set", forge.shown(0, 0), 14);
        Expect.due(29, "those that are left", forge.shown(0, 1), 4 + 16);
        House.fill(forge, 2, 2, 2, 8, 4, 3);
        forge.upload(0, 0);
        Expect.due(29, "the pairs are those of the row", forge.shown(0, 2), 1 + 8);
        House.fill(forge, 2, 4);
        forge.upload(0, 0);
        Expect.due(29, "one is left", forge.shown(0, 3), 1);
        House.fill(forge, 2, 2, 3, 4);
        forge.upload(0, 0);
        Expect.due(29, "what was left is followed, not looked for", forge.shown(0, 4), 4);
        forge.comment(1, 0, 2, 2, 0, 1, true);
        Expect.due(29, "not before its own set", forge.shown(1, 1), 0);
        Expect.due(29, "in its own set", forge.shown(1, 2), 1);
        Expect.due(29, "lost", forge.shown(1, 3), 0);
        Expect.due(29, "found", forge.shown(1, 4), 1);
    }

    private static void lostAndFound() {
        ReviewForge forge = withLines(0, 1, 2, 3, 4);
        forge.comment(1, 0, 0, 0, 1, 2, true);
        House.fill(forge, 0, 1, 4);
        forge.upload(0, 0);
        Expect.due(29, "lost", forge.shown(0, 1), 0);
        House.fill(forge, 0, 1, 2, 4, 3);
        forge.upload(0, 0);
        Expect.due(29, "not one behind the other", forge.shown(0, 2), 0);
        House.fill(forge, 0, 2, 103, 1);
        forge.upload(0, 0);
        Expect.due(29, "not as they were", forge.shown(0, 3), 0);
        House.fill(forge, 0, 7, 7, 2, 3);
        forge.upload(0, 0);
        Expect.due(29, "found", forge.shown(0, 4), 12);
        House.fill(forge, 0, 7, 7, 8, 2);
        forge.upload(0, 0);
        Expect.due(29, "followed from there", forge.shown(0, 5), 8);
        House.fill(forge, 0, 5);
        House.fill(forge, 1, 2, 3);
        forge.upload(0, 0);
        Expect.due(29, "lost again, and not looked for in another file", forge.shown(0, 6), 0);
    }

    private static void soughtAtJustOnePlace() {
        ReviewForge forge = withLines(0, 1, 1, 5);
        forge.comment(1, 0, 0, 0, 0, 2, true);
        forge.comment(1, 0, 0, 0, 2, 1, true);
        House.fill(forge, 0);
        forge.upload(0, 0);
        Expect.due(29, "lost in an empty file", forge.shown(0, 1), 0);
        House.fill(forge, 0, 1, 1, 1);
        forge.upload(0, 0);
        Expect.due(29, "at two places that share a line", forge.shown(0, 2), 0);
        House.fill(forge, 0);
        forge.upload(0, 0);
        House.fill(forge, 0, 5, 1, 1, 5);
        forge.upload(0, 0);
        Expect.due(29, "at one place", forge.shown(0, 4), 6);
        Expect.due(29, "the other one at two", forge.shown(1, 4), 0);
        // where a line was added with one like it, the pair is the first one, and nothing is looked for
        House.fill(forge, 0, 1, 1, 5, 5);
        forge.upload(0, 0);
        Expect.due(29, "still at two", forge.shown(1, 5), 0);
        House.fill(forge, 0, 1, 1, 5);
        forge.upload(0, 0);
        Expect.due(29, "at one", forge.shown(1, 6), 4);
    }

    private static void linesOfAnotherIndent() {
        ReviewForge forge = withLines(0, 1, 2);
        forge.comment(1, 0, 0, 0, 0, 2, true);
        House.fill(forge, 0, 101, 2);
        forge.upload(0, 0);
        Expect.due(29, "an indent loses the line", forge.shown(0, 1), 2);
        House.fill(forge, 0, 101, 102);
        forge.upload(0, 0);
        Expect.due(29, "and the other one", forge.shown(0, 2), 0);
    }

    private static void theGreatestNumberTells() {
        ReviewForge forge = withLines(0, 1, 2, 3);
        forge.comment(1, 0, 0, 0, 0, 1, false);
        forge.publish(1, 0);
        Expect.due(30, "it says it is resolved", forge.unresolved(0), 0);
        forge.answer(2, 0, false);
        forge.answer(3, 0, true);
        forge.publish(3, 0);
        Expect.due(30, "the answer says it is not", forge.unresolved(0), 1);
        forge.publish(2, 0);
        Expect.due(30, "published later, but of a lower number", forge.unresolved(0), 1);
        forge.answer(2, 0, false);
        forge.publish(2, 0);
        Expect.due(30, "of a greater number", forge.unresolved(0), 0);
    }

    private static void wrongNumbers() {
        ReviewForge forge = withLines(0, 1, 2, 3);
        forge.comment(1, 0, 0, 0, 0, 1, false);
        Expect.index(29, forge, "no such comment", () -> forge.shown(1, 0));
        Expect.index(29, forge, "no such comment", () -> forge.shown(-1, 0));
        Expect.index(29, forge, "no such set", () -> forge.shown(0, 1));
        Expect.index(29, forge, "no such set", () -> forge.shown(0, -1));
        Expect.index(30, forge, "no such change", () -> forge.unresolved(1));
        Expect.index(30, forge, "no such change", () -> forge.unresolved(-1));
    }
}
