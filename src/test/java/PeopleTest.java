/** Promises 48 to 54: reviewers, turns, mails and days. */
public final class PeopleTest {
    private static final int REVIEW = ReviewForge.REVIEW;
    private static final int VERIFY = ReviewForge.VERIFY;
    private static final int OPEN = ReviewForge.OPEN;
    private static final int ABANDONED = ReviewForge.ABANDONED;

    public static void main(String[] args) {
        reviewers();
        turns();
        turnsInWork();
        turnsThatEnd();
        watching();
        mailsOfEach();
        mailsOfLanding();
        mailsAndFlags();
        days();
        whatIsCleanedAway();
        actsThatCount();
        wrongNumbers();
        Expect.finish("PeopleTest");
    }

    private static ReviewForge withChange() {
        ReviewForge forge = new ReviewForge();
        forge.put(0, 0, 1);
        forge.open(0);
        return forge;
    }

    private static void mails(ReviewForge forge, String call, int... want) {
        for (int person = 0; person < want.length; person++) {
            Expect.due(52, call + ": mails(" + person + ")", forge.mails(person), want[person]);
        }
    }

    private static void reviewers() {
        ReviewForge forge = withChange();
        Expect.due(48, "addReviewer", forge.addReviewer(3, 0), true);
        Expect.due(48, "again", forge.addReviewer(3, 0), false);
        Expect.due(49, "reviewers", forge.reviewers(0), 8);
        forge.vote(1, 0, 0, VERIFY, 0);
        Expect.due(48, "who has voted", forge.addReviewer(1, 0), false);
        forge.comment(2, 0, 0, 0, 0, 1, false);
        Expect.due(48, "who has a draft", forge.addReviewer(2, 0), true);
        forge.comment(4, 0, 0, 0, 0, 1, false);
        Expect.due(49, "not who has a draft", forge.reviewers(0), 2 + 4 + 8);
        forge.publish(4, 0);
        Expect.due(49, "who has published", forge.reviewers(0), 2 + 4 + 8 + 16);
        forge.vote(0, 0, 0, REVIEW, 1);
        forge.upload(5, 0);
        Expect.due(49, "not the owner, nor who uploads", forge.reviewers(0), 2 + 4 + 8 + 16);
        Expect.state(48, forge, "the owner", () -> forge.addReviewer(0, 0) ? 1 : 0);
        forge.abandon(0, 0);
        Expect.state(48, forge, "abandoned", () -> forge.addReviewer(5, 0) ? 1 : 0);
    }

    private static void turns() {
        ReviewForge forge = withChange();
        Expect.due(50, "nobody's at first", forge.whoseTurn(0), 0);
        forge.addReviewer(1, 0);
        forge.addReviewer(2, 0);
        Expect.due(50, "who is added", forge.whoseTurn(0), 2 + 4);
        forge.vote(1, 0, 0, REVIEW, 2);
        Expect.due(50, "who votes has none, the owner gets one", forge.whoseTurn(0), 1 + 4);
        forge.addReviewer(1, 0);
        Expect.due(50, "who is added again", forge.whoseTurn(0), 1 + 2 + 4);
        forge.vote(0, 0, 0, REVIEW, 1);
        Expect.due(50, "the owner votes", forge.whoseTurn(0), 2 + 4);
        forge.vote(1, 0, 0, REVIEW, 2);
        forge.vote(2, 0, 0, REVIEW, 1);
        Expect.due(50, "the owner's alone", forge.whoseTurn(0), 1);
        forge.comment(0, 0, 0, 0, 0, 1, false);
        Expect.due(50, "a draft does nothing", forge.whoseTurn(0), 1);
        forge.publish(0, 0);
        Expect.due(50, "the owner publishes: all that do not vote 2", forge.whoseTurn(0), 4);
        forge.comment(2, 0, 0, 0, 0, 1, false);
        forge.publish(2, 0);
        Expect.due(50, "a reviewer publishes", forge.whoseTurn(0), 1);
        forge.upload(0, 0);
        Expect.due(50, "the owner uploads the SAME", forge.whoseTurn(0), 4);
        forge.upload(3, 0);
        Expect.due(50, "somebody else uploads", forge.whoseTurn(0), 1 + 4);
        forge.put(0, 0, 2);
        forge.upload(0, 0);
        Expect.due(50, "a REWORK: the 2 is not copied", forge.whoseTurn(0), 2 + 4);
        forge.vote(5, 0, 0, VERIFY, 0);
        Expect.due(50, "somebody votes", forge.whoseTurn(0), 1 + 2 + 4);
    }

    private static void turnsInWork() {
        ReviewForge forge = withChange();
        forge.addReviewer(1, 0);
        forge.vote(2, 0, 0, REVIEW, 2);
        Expect.due(50, "before", forge.whoseTurn(0), 1 + 2);
        forge.setFlags(0, false, true);
        Expect.due(50, "private", forge.whoseTurn(0), 1 + 2);
        forge.setFlags(0, true, true);
        Expect.due(50, "it comes into work", forge.whoseTurn(0), 0);
        forge.addReviewer(3, 0);
        forge.vote(2, 0, 0, REVIEW, 1);
        forge.upload(0, 0);
        forge.vote(2, 0, 1, REVIEW, 2);
        Expect.due(50, "nobody gets one in work", forge.whoseTurn(0), 0);
        Expect.due(49, "but is a reviewer", forge.reviewers(0), 2 + 4 + 8);
        forge.setFlags(0, true, false);
        Expect.due(50, "still in work", forge.whoseTurn(0), 0);
        forge.setFlags(0, false, false);
        Expect.due(50, "its work ends: all reviewers", forge.whoseTurn(0), 2 + 4 + 8);
        forge.vote(1, 0, 1, REVIEW, 0);
        forge.setFlags(0, false, false);
        Expect.due(50, "no work has ended", forge.whoseTurn(0), 1 + 4 + 8);
    }

    private static void turnsThatEnd() {
        ReviewForge forge = withChange();
        forge.addReviewer(1, 0);
        forge.abandon(2, 0);
        Expect.due(50, "abandoned", forge.whoseTurn(0), 0);
        forge.comment(1, 0, 0, 0, 0, 1, false);
        forge.publish(1, 0);
        Expect.due(50, "nobody gets one", forge.whoseTurn(0), 0);
        forge.restore(0);
        Expect.due(50, "nor by restoring", forge.whoseTurn(0), 0);
        forge.addReviewer(1, 0);
        forge.advance(30);
        Expect.due(50, "cleaned away", forge.whoseTurn(0), 0);
        forge.restore(0);
        forge.addReviewer(1, 0);
        forge.addRule(15, 0, 0);
        Expect.due(50, "before it lands", forge.whoseTurn(0), 2);
        forge.land(0, 0);
        Expect.due(50, "landed", forge.whoseTurn(0), 0);
        forge.comment(1, 0, 0, 0, 0, 1, false);
        forge.publish(1, 0);
        Expect.due(50, "nobody gets one", forge.whoseTurn(0), 0);
    }

    private static void watching() {
        ReviewForge forge = new ReviewForge();
        Expect.due(51, "watch", forge.watch(1, 0, true), false);
        Expect.due(51, "again", forge.watch(1, 0, true), true);
        Expect.due(51, "the other repository", forge.watch(1, 1, false), false);
        Expect.due(51, "somebody else", forge.watch(2, 0, false), false);
        Expect.due(51, "no more", forge.watch(1, 0, false), true);
        Expect.due(51, "no more", forge.watch(1, 0, false), false);
        forge.watch(3, 0, true);
        forge.watch(4, 1, true);
        forge.open(0);
        mails(forge, "a first patch set", 0, 0, 0, 1, 0, 0);
        forge.take(1);
        forge.open(4);
        mails(forge, "not the one who did it", 0, 0, 0, 1, 0, 0);
        forge.watch(3, 0, false);
        forge.take(0);
        forge.upload(1, 0);
        mails(forge, "who watches no more", 1, 0, 0, 1, 0, 0);
    }

    private static void mailsOfEach() {
        ReviewForge forge = withChange();
        forge.watch(5, 0, true);
        forge.watch(0, 0, true);
        forge.addReviewer(1, 0);
        forge.addReviewer(5, 0);
        mails(forge, "adding brings none", 0, 0, 0, 0, 0, 0);
        forge.vote(2, 0, 0, REVIEW, 1);
        mails(forge, "a vote: to nobody twice", 1, 1, 0, 0, 0, 1);
        forge.vote(0, 0, 0, VERIFY, 1);
        mails(forge, "the owner's vote", 1, 2, 1, 0, 0, 2);
        forge.upload(2, 0);
        mails(forge, "an upload", 2, 3, 1, 0, 0, 3);
        forge.comment(3, 0, 0, 0, 0, 1, true);
        forge.setTopic(0, 1);
        forge.find(0, 0, 0, 0, 1, 5);
        mails(forge, "a draft, a topic, a finding: none", 2, 3, 1, 0, 0, 3);
        forge.comment(3, 0, 0, 0, 0, 1, true);
        forge.publish(3, 0);
        mails(forge, "one for all that is published", 3, 4, 2, 0, 0, 4);
        forge.abandon(1, 0);
        mails(forge, "abandoned", 4, 4, 3, 1, 0, 5);
        forge.restore(0);
        mails(forge, "restored: none", 4, 4, 3, 1, 0, 5);
        forge.advance(30);
        mails(forge, "nobody did it", 5, 5, 4, 2, 0, 6);
        forge.restore(0);
        forge.take(2);
        forge.open(4);
        forge.upload(4, 0 + 1);
        forge.takeSet(0, 0);
        forge.put(1, 0, 5);
        mails(forge, "to those who watch", 7, 5, 4, 2, 0, 8);
        forge.upload(0, 0);
        mails(forge, "an upload of the owner", 7, 6, 5, 3, 0, 9);
        forge.rebase(3, 1);
        mails(forge, "a rebase is an upload", 8, 6, 5, 3, 1, 10);
    }

    private static void mailsOfLanding() {
        ReviewForge forge = withChange();
        forge.take(2);
        forge.open(1);
        forge.addReviewer(2, 0);
        forge.addReviewer(2, 1);
        forge.addReviewer(3, 1);
        forge.watch(4, 0, true);
        forge.addRule(15, 0, 0);
        forge.setFlags(1, false, true);
        Expect.due(47, "land", forge.land(3, 1), 2);
        mails(forge, "one for each that lands", 1, 1, 2, 0, 1, 0);
        ReviewForge refused = withChange();
        refused.addReviewer(1, 0);
        Expect.due(47, "land", refused.land(2, 0), 0);
        mails(refused, "none if it does not land", 0, 0, 0, 0, 0, 0);
    }

    private static void mailsAndFlags() {
        ReviewForge forge = withChange();
        forge.watch(5, 0, true);
        forge.addReviewer(1, 0);
        forge.setFlags(0, true, false);
        forge.upload(0, 0);
        mails(forge, "in work: not to who watches", 0, 1, 0, 0, 0, 0);
        forge.setFlags(0, false, true);
        forge.upload(0, 0);
        mails(forge, "private: not to who watches", 0, 2, 0, 0, 0, 0);
        forge.addReviewer(5, 0);
        forge.upload(0, 0);
        mails(forge, "private: to who is a reviewer", 0, 3, 0, 0, 0, 1);
    }

    private static void days() {
        ReviewForge forge = new ReviewForge();
        Expect.due(54, "day()", forge.day(), 0);
        Expect.due(53, "advance(1)", forge.advance(1), 0);
        Expect.due(54, "day()", forge.day(), 1);
        for (int many = 0; many < 99; many++) {
            forge.advance(100);
        }
        Expect.due(54, "day()", forge.day(), 9901);
        Expect.state(53, forge, "advance(100)", () -> forge.advance(100));
        Expect.argument(53, forge, "advance(101)", () -> forge.advance(101));
        Expect.argument(53, forge, "advance(0)", () -> forge.advance(0));
        Expect.argument(53, forge, "advance(-1)", () -> forge.advance(-1));
        Expect.argument(53, forge, "far too many", () -> forge.advance(Integer.MAX_VALUE));
        Expect.due(53, "advance(99)", forge.advance(99), 0);
        Expect.due(54, "day()", forge.day(), 10000);
        Expect.state(53, forge, "advance(1)", () -> forge.advance(1));
    }

    private static void whatIsCleanedAway() {
        ReviewForge forge = withChange();
        forge.advance(5);
        forge.open(1);
        Expect.due(53, "29 days", forge.advance(24), 0);
        Expect.due(53, "the 30th day", forge.advance(1), 1);
        Expect.due(19, "stateOf(0)", forge.stateOf(0), ABANDONED);
        Expect.due(19, "stateOf(1)", forge.stateOf(1), OPEN);
        Expect.due(53, "not again", forge.advance(4), 0);
        Expect.due(53, "the other one", forge.advance(100), 1);
        forge.restore(0);
        Expect.due(53, "29 days since it was restored", forge.advance(29), 0);
        Expect.due(53, "30 days", forge.advance(1), 1);
        forge.restore(0);
        forge.restore(1);
        forge.addRule(15, 0, 0);
        forge.land(0, 0);
        Expect.due(53, "a landed one stays", forge.advance(60), 1);
        Expect.due(19, "stateOf(0)", forge.stateOf(0), ReviewForge.LANDED);
    }

    /** Opens five changes; on the 20th day something is done for the change 0 alone. */
    private static void actsThatCount() {
        for (int deed = 0; deed < 9; deed++) {
            ReviewForge forge = withChange();
            forge.open(1);
            forge.take(2);
            forge.open(0);
            forge.take(0);
            forge.comment(1, 0, 0, 0, 0, 1, false);
            forge.upload(0, 0);
            forge.advance(20);
            doDeed(forge, deed);
            boolean isAct = deed < 4;
            int change = deed == 3 ? 2 : 0;
            forge.advance(10);
            Expect.due(53, "the deed " + deed, forge.stateOf(change), isAct ? OPEN : ABANDONED);
            Expect.due(53, "the deed " + deed, forge.advance(19), 0);
            Expect.due(53, "the deed " + deed, forge.advance(1), isAct ? 1 : 0);
        }
    }

    private static void doDeed(ReviewForge forge, int deed) {
        switch (deed) {
            case 0 -> forge.upload(5, 0);
            case 1 -> forge.vote(0, 0, 0, REVIEW, 0);
            case 2 -> forge.publish(1, 0);
            case 3 -> forge.rebase(0, 2);
            case 4 -> forge.addReviewer(4, 0);
            case 5 -> forge.setFlags(0, true, true);
            case 6 -> forge.comment(2, 0, 0, 0, 0, 1, false);
            case 7 -> forge.setTopic(0, 1);
            default -> forge.find(0, 0, 0, 0, 1, 1);
        }
    }

    private static void wrongNumbers() {
        ReviewForge forge = withChange();
        Expect.index(48, forge, "no such person", () -> forge.addReviewer(6, 0) ? 1 : 0);
        Expect.index(48, forge, "no such person", () -> forge.addReviewer(-1, 0) ? 1 : 0);
        Expect.index(48, forge, "no such change", () -> forge.addReviewer(1, 1) ? 1 : 0);
        Expect.index(48, forge, "no such change", () -> forge.addReviewer(1, -1) ? 1 : 0);
        Expect.index(49, forge, "no such change", () -> forge.reviewers(1));
        Expect.index(49, forge, "no such change", () -> forge.reviewers(-1));
        Expect.index(50, forge, "no such change", () -> forge.whoseTurn(1));
        Expect.index(50, forge, "no such change", () -> forge.whoseTurn(-1));
        Expect.index(51, forge, "no such person", () -> forge.watch(6, 0, true) ? 1 : 0);
        Expect.index(51, forge, "no such person", () -> forge.watch(-1, 0, true) ? 1 : 0);
        Expect.index(51, forge, "no such repository", () -> forge.watch(0, 2, true) ? 1 : 0);
        Expect.index(51, forge, "no such repository", () -> forge.watch(0, -1, true) ? 1 : 0);
        Expect.index(52, forge, "no such person", () -> forge.mails(6));
        Expect.index(52, forge, "no such person", () -> forge.mails(-1));
    }
}
