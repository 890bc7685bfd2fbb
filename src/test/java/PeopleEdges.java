/** The boundary cases of reviewers, turns, mails and days: promises 48 to 54. */
final class PeopleEdges {
    private static final int REVIEW = ReviewForge.REVIEW;
    private static final int VERIFY = ReviewForge.VERIFY;
    private static final int OPEN = ReviewForge.OPEN;
    private static final int ABANDONED = ReviewForge.ABANDONED;

    private PeopleEdges() {
    }

    static void run() {
        reviewers();
        turnsOfReviewers();
        turnsOfTheOwner();
        turnsThatEnd();
        mailsOfActs();
        receivers();
        whoSees();
        acts();
        cleaning();
        reviewerRefused();
        watching();
        days();
    }

    private static ReviewForge one() {
        return House.opened(1);
    }

    private static void reviewers() {
        Edge.says("Reviewers of a change are those who were added, and all others than its owner who have published comments for it or"
                + " voted on it.");
        ReviewForge forge = one();
        Edge.due("none at first", forge.reviewers(0), 0);
        forge.addReviewer(5, 0);
        Edge.due("added", forge.reviewers(0), 32);
        forge.comment(4, 0, 0, 0, 0, 1, true);
        Edge.due("a draft is not published", forge.reviewers(0), 32);
        forge.publish(4, 0);
        Edge.due("published", forge.reviewers(0), 48);
        forge.answer(3, 0, true);
        forge.publish(3, 0);
        Edge.due("published an answer", forge.reviewers(0), 56);
        forge.vote(2, 0, 0, VERIFY, 0);
        Edge.due("voted", forge.reviewers(0), 60);
        forge.comment(0, 0, 0, 0, 0, 1, true);
        forge.publish(0, 0);
        forge.vote(0, 0, 0, REVIEW, 2);
        Edge.due("not its owner", forge.reviewers(0), 60);
        forge.upload(1, 0);
        forge.abandon(1, 0);
        forge.restore(0);
        Edge.due("not who uploads and abandons", forge.reviewers(0), 60);
        forge.vote(1, 0, 0, REVIEW, 1);
        Edge.due("who votes on an older patch set", forge.reviewers(0), 62);
        forge.open(1);
        Edge.due("of another change", forge.reviewers(1), 0);
    }

    private static void turnsOfReviewers() {
        Edge.says("It can be somebody's turn, nobody's at first: who is added as a reviewer (also again) gets a turn;");
        ReviewForge forge = one();
        Edge.due("nobody's", forge.whoseTurn(0), 0);
        forge.addReviewer(5, 0);
        Edge.due("added", forge.whoseTurn(0), 32);
        forge.vote(5, 0, 0, REVIEW, 1);
        Edge.due("who votes has none", forge.whoseTurn(0), 1);
        forge.addReviewer(5, 0);
        Edge.due("again", forge.whoseTurn(0), 33);
        Edge.says("who uploads, votes or publishes has none any more;");
        forge.upload(5, 0);
        Edge.due("who uploads", forge.whoseTurn(0), 1);
        forge.addReviewer(5, 0);
        forge.comment(5, 0, 0, 0, 0, 1, false);
        Edge.due("who drafts has it", forge.whoseTurn(0), 33);
        forge.publish(5, 0);
        Edge.due("who publishes", forge.whoseTurn(0), 1);
        forge.vote(0, 0, 0, REVIEW, 0);
        Edge.due("the owner who votes", forge.whoseTurn(0), 0);
        forge.addReviewer(5, 0);
        forge.addReviewer(4, 0);
        forge.vote(4, 0, 0, VERIFY, 0);
        Edge.due("the others keep theirs", forge.whoseTurn(0), 33);
        forge.vote(3, 0, 1, REVIEW, -2);
        Edge.due("a first vote gives none to who votes", forge.whoseTurn(0), 33);
    }

    private static void turnsOfTheOwner() {
        Edge.says("if that is the owner, who uploads or publishes, all reviewers get one that do not vote 2 in REVIEW then;");
        for (int value = -2; value <= 2; value++) {
            ReviewForge forge = one();
            forge.vote(5, 0, 0, REVIEW, value);
            Edge.due("the owner's", forge.whoseTurn(0), 1);
            forge.comment(0, 0, 0, 0, 0, 1, false);
            forge.publish(0, 0);
            Edge.due("the owner publishes, the vote is " + value, forge.whoseTurn(0), value == 2 ? 0 : 32);
            forge.vote(5, 0, 0, REVIEW, value);
            forge.upload(0, 0);
            Edge.due("the owner uploads the SAME, the vote is " + value, forge.whoseTurn(0), value == 2 ? 0 : 32);
            forge.vote(5, 0, 1, REVIEW, value);
            forge.put(1, 0, 1);
            forge.upload(0, 0);
            Edge.due("the owner uploads a REWORK, where 2 is not copied", forge.whoseTurn(0), 32);
        }
        ReviewForge verify = one();
        verify.vote(5, 0, 0, VERIFY, 1);
        verify.upload(0, 0);
        Edge.due("1 in VERIFY is no 2 in REVIEW", verify.whoseTurn(0), 32);
        ReviewForge votes = one();
        votes.addReviewer(5, 0);
        votes.vote(5, 0, 0, REVIEW, 1);
        votes.vote(0, 0, 0, REVIEW, 1);
        Edge.due("the owner who votes gives none", votes.whoseTurn(0), 0);
        votes.upload(0, 0);
        Edge.due("who has one keeps it", votes.whoseTurn(0), 32);
        votes.vote(5, 0, 0, REVIEW, 2);
        votes.addReviewer(5, 0);
        votes.setCopied(REVIEW, ReviewForge.SAME, 31);
        votes.upload(0, 0);
        Edge.due("also who votes 2", votes.whoseTurn(0), 32);
        ReviewForge rebased = House.allReady(one());
        House.openOn(rebased, 0, 1, 1);
        rebased.addReviewer(1, 1);
        rebased.vote(1, 1, 0, REVIEW, -1);
        rebased.land(0, 0);
        rebased.rebase(0, 1);
        Edge.due("a rebase is an upload", rebased.whoseTurn(1), 2);
        Edge.says("if it is somebody else, the owner gets one.");
        ReviewForge other = House.with(1);
        other.open(5);
        other.upload(0, 0);
        Edge.due("somebody uploads", other.whoseTurn(0), 32);
        other.upload(5, 0);
        Edge.due("without reviewers nobody gets one", other.whoseTurn(0), 0);
        other.comment(1, 0, 0, 0, 0, 1, true);
        other.publish(1, 0);
        Edge.due("somebody publishes", other.whoseTurn(0), 32);
        other.vote(5, 0, 0, VERIFY, 1);
        other.vote(1, 0, 0, VERIFY, 0);
        Edge.due("somebody votes", other.whoseTurn(0), 32);
    }

    private static ReviewForge withTurns() {
        ReviewForge forge = House.allReady(one());
        forge.addReviewer(1, 0);
        forge.vote(2, 0, 0, REVIEW, 2);
        return forge;
    }

    private static void turnsThatEnd() {
        Edge.says("When a change lands, is ABANDONED, or comes into work, nobody has one any more,");
        ReviewForge landed = withTurns();
        Edge.due("ahead of it", landed.whoseTurn(0), 3);
        landed.land(0, 0);
        Edge.due("landed", landed.whoseTurn(0), 0);
        ReviewForge abandoned = withTurns();
        abandoned.abandon(3, 0);
        Edge.due("abandoned", abandoned.whoseTurn(0), 0);
        ReviewForge cleaned = withTurns();
        cleaned.advance(29);
        Edge.due("ahead of the 30th day", cleaned.whoseTurn(0), 3);
        cleaned.advance(1);
        Edge.due("abandoned by the days", cleaned.whoseTurn(0), 0);
        ReviewForge work = withTurns();
        work.setFlags(0, false, true);
        Edge.due("private", work.whoseTurn(0), 3);
        work.setFlags(0, true, true);
        Edge.due("in work", work.whoseTurn(0), 0);
        Edge.says("and as long as it is in work, or not OPEN, nobody gets one; when its work ends, its reviewers get one.");
        work.addReviewer(4, 0);
        work.upload(0, 0);
        work.upload(4, 0);
        work.vote(1, 0, 0, REVIEW, 1);
        work.comment(1, 0, 0, 0, 0, 1, true);
        work.publish(1, 0);
        work.setFlags(0, true, false);
        Edge.due("nobody in work", work.whoseTurn(0), 0);
        work.setFlags(0, false, false);
        Edge.due("its work ends: also who votes 2", work.whoseTurn(0), 2 + 4 + 16);
        work.vote(1, 0, 0, REVIEW, 1);
        work.setFlags(0, false, true);
        Edge.due("no work has ended", work.whoseTurn(0), 1 + 4 + 16);
        ReviewForge seen = withTurns();
        seen.setFlags(0, true, false);
        seen.addReviewer(1, 0);
        seen.vote(1, 0, 0, REVIEW, 1);
        seen.upload(0, 0);
        Edge.due("nobody in work, but not private", seen.whoseTurn(0), 0);
        ReviewForge hidden = withTurns();
        hidden.setFlags(0, false, true);
        hidden.vote(0, 0, 0, REVIEW, 0);
        hidden.vote(1, 0, 0, REVIEW, 1);
        hidden.addReviewer(2, 0);
        Edge.due("private, but not in work", hidden.whoseTurn(0), 1 + 4);
        abandoned.comment(1, 0, 0, 0, 0, 1, true);
        abandoned.publish(1, 0);
        Edge.due("nobody when abandoned", abandoned.whoseTurn(0), 0);
        abandoned.restore(0);
        Edge.due("nor by being restored", abandoned.whoseTurn(0), 0);
        landed.comment(1, 0, 0, 0, 0, 1, true);
        landed.publish(1, 0);
        Edge.due("nobody when landed", landed.whoseTurn(0), 0);
        abandoned.setFlags(0, true, false);
        abandoned.abandon(0, 0);
        abandoned.restore(0);
        abandoned.setFlags(0, false, false);
        Edge.due("its work ends later", abandoned.whoseTurn(0), 2 + 4);
    }

    private static String mails(ReviewForge forge) {
        StringBuilder text = new StringBuilder();
        for (int person = 0; person < 6; person++) {
            text.append(person == 0 ? "" : " ").append(forge.mails(person));
        }
        return text.toString();
    }

    private static void mailsOfActs() {
        Edge.says("A mail goes out when a patch set is uploaded to a change (also its first one), when something is published, when"
                + " somebody votes, when it lands, and when it is abandoned:");
        ReviewForge forge = House.allReady(House.with(1));
        forge.watch(5, 0, true);
        forge.open(0);
        Edge.due("the first patch set", mails(forge), "0 0 0 0 0 1");
        forge.upload(1, 0);
        Edge.due("a patch set", mails(forge), "1 0 0 0 0 2");
        forge.comment(1, 0, 0, 0, 0, 1, true);
        forge.comment(1, 0, 0, 0, 0, 1, true);
        Edge.due("drafts", mails(forge), "1 0 0 0 0 2");
        forge.publish(1, 0);
        Edge.due("two are published at once", mails(forge), "2 0 0 0 0 3");
        forge.vote(0, 0, 0, VERIFY, 0);
        Edge.due("a vote", mails(forge), "2 1 0 0 0 4");
        forge.abandon(0, 0);
        Edge.due("abandoned", mails(forge), "2 2 0 0 0 5");
        forge.restore(0);
        forge.addReviewer(2, 0);
        forge.setTopic(0, 1);
        forge.find(0, 0, 0, 0, 0, 1);
        forge.setFlags(0, true, false);
        forge.setFlags(0, false, false);
        forge.takeFixes(0, 0);
        Edge.due("nothing else", mails(forge), "2 2 0 0 0 5");
        forge.land(2, 0);
        Edge.due("landed", mails(forge), "3 3 0 0 0 6");
        forge.comment(5, 0, 0, 0, 0, 1, true);
        forge.publish(5, 0);
        Edge.due("published when it has landed", mails(forge), "4 4 1 0 0 6");
        ReviewForge rebased = House.allReady(one());
        House.openOn(rebased, 0, 1, 1);
        rebased.land(0, 0);
        rebased.rebase(1, 1);
        Edge.due("a rebase", mails(rebased), "1 0 0 0 0 0");
        ReviewForge refused = one();
        refused.land(1, 0);
        Edge.due("what does not land", mails(refused), "0 0 0 0 0 0");
    }

    private static void receivers() {
        Edge.says("one to its owner and to each reviewer, and, if it is neither private nor in work, to those who watch its"
                + " repository, but to nobody twice, and not to the one who did it.");
        for (int flags = 0; flags < 4; flags++) {
            ReviewForge forge = one();
            forge.addReviewer(1, 0);
            forge.addReviewer(2, 0);
            forge.watch(2, 0, true);
            forge.watch(0, 0, true);
            forge.watch(3, 0, true);
            forge.watch(4, 1, true);
            forge.setFlags(0, flags % 2 == 1, flags > 1);
            forge.upload(1, 0);
            Edge.due("with the flags " + flags, mails(forge), flags == 0 ? "1 0 1 1 0 0" : "1 0 1 0 0 0");
            forge.upload(0, 0);
            Edge.due("by its owner", mails(forge), flags == 0 ? "1 1 2 2 0 0" : "1 1 2 0 0 0");
        }
        ReviewForge watcher = one();
        watcher.watch(3, 0, true);
        watcher.upload(3, 0);
        Edge.due("not to who watches and did it", mails(watcher), "1 0 0 0 0 0");
        watcher.watch(3, 0, false);
        watcher.upload(2, 0);
        Edge.due("not to who watches no more", mails(watcher), "2 0 0 0 0 0");
        ReviewForge nobody = one();
        nobody.addReviewer(1, 0);
        nobody.watch(5, 0, true);
        nobody.advance(30);
        Edge.due("nobody did it", mails(nobody), "1 1 0 0 0 1");
    }

    private static void whoSees() {
        Edge.says("Everyone can see a change that is not private; its owner and its reviewers can see a private one.");
        for (int person = 0; person < 6; person++) {
            int who = person;
            Edge.allowed("not private", PeopleEdges::one, forge -> forge.abandon(who, 0));
            PeopleEdges.seen(person, person < 4);
        }
    }

    /** The persons 1, 2 and 3 were added, have published, and have voted; 4 has a draft, and 5 has uploaded. */
    private static ReviewForge hidden() {
        ReviewForge forge = one();
        forge.addReviewer(1, 0);
        forge.comment(2, 0, 0, 0, 0, 1, true);
        forge.publish(2, 0);
        forge.vote(3, 0, 0, REVIEW, 0);
        forge.comment(4, 0, 0, 0, 0, 1, true);
        forge.upload(5, 0);
        forge.watch(5, 0, true);
        forge.setFlags(0, false, true);
        return forge;
    }

    private static void seen(int person, boolean isSeen) {
        if (isSeen) {
            Edge.allowed("the person " + person, PeopleEdges::hidden, forge -> forge.abandon(person, 0));
        } else {
            Edge.state("the person " + person, PeopleEdges::hidden, forge -> forge.abandon(person, 0));
        }
    }

    private interface Deed {
        void run(ReviewForge forge);
    }

    /** Whether a deed of the 29th day keeps a change from being abandoned on the 30th, and for how long. */
    private static void deed(String name, boolean isAct, Deed deed) {
        ReviewForge forge = House.with(1);
        forge.open(0);
        forge.open(0);
        forge.comment(1, 0, 0, 0, 0, 1, true);
        forge.advance(29);
        deed.run(forge);
        Edge.due(name + ": the 30th day", forge.advance(1), isAct ? 1 : 2);
        Edge.due(name + ": the state", forge.stateOf(0), isAct ? OPEN : ABANDONED);
        if (isAct) {
            Edge.due(name + ": the 58th day", forge.advance(28), 0);
            Edge.due(name + ": the 59th day", forge.advance(1), 1);
        }
    }

    private static void acts() {
        Edge.says("Each of these that brings mails, and being restored, is an act for a change.");
        deed("an upload", true, forge -> forge.upload(0, 0));
        deed("a vote", true, forge -> forge.vote(0, 0, 0, REVIEW, 0));
        deed("publishing", true, forge -> forge.publish(1, 0));
        deed("being restored", true, forge -> {
            forge.abandon(0, 0);
            forge.restore(0);
        });
        deed("a reviewer", false, forge -> forge.addReviewer(3, 0));
        deed("flags", false, forge -> forge.setFlags(0, true, true));
        deed("a topic", false, forge -> forge.setTopic(0, 2));
        deed("a draft", false, forge -> forge.comment(0, 0, 0, 0, 0, 1, true));
        deed("a finding", false, forge -> forge.find(0, 0, 0, 0, 0, 1));
        deed("fixes", false, forge -> forge.takeFixes(0, 0));
        deed("landing that is not ready", false, forge -> forge.land(0, 0));
        deed("nothing", false, forge -> forge.changes());
        deed("an upload to another change", false, forge -> forge.open(0));
    }

    private static void cleaning() {
        Edge.says("A change that is OPEN, and has had no act for 30 days, is ABANDONED when the 30th day behind that of the latest act"
                + " begins (nobody did it).");
        ReviewForge forge = one();
        Edge.due("the 29th day", forge.advance(29), 0);
        Edge.due("it is open", forge.stateOf(0), OPEN);
        Edge.due("the 30th day", forge.advance(1), 1);
        Edge.due("it is abandoned", forge.stateOf(0), ABANDONED);
        Edge.due("not twice", forge.advance(100), 0);
        forge.restore(0);
        Edge.due("restored: the 29th day", forge.advance(29), 0);
        Edge.due("restored: the 30th day", forge.advance(1), 1);
        Edge.due("30 days at once", one().advance(30), 1);
        Edge.due("31 days at once", one().advance(31), 1);
        Edge.due("100 days at once", one().advance(100), 1);
        ReviewForge all = new ReviewForge();
        for (int change = 0; change < 20; change++) {
            all.open(0);
            all.advance(1);
        }
        Edge.due("20 changes, one a day: the 29th", all.advance(9), 0);
        for (int change = 0; change < 20; change++) {
            Edge.due("the next day", all.advance(1), 1);
            Edge.due("the change", all.stateOf(change), ABANDONED);
        }
        ReviewForge landed = House.allReady(one());
        landed.land(0, 0);
        Edge.due("a landed one is not", landed.advance(100), 0);
        ReviewForge flags = one();
        flags.setFlags(0, true, true);
        Edge.due("one in work and private is", flags.advance(30), 1);
    }

    private static ReviewForge ended(boolean isLanded) {
        ReviewForge forge = House.allReady(one());
        if (isLanded) {
            forge.land(0, 0);
        } else {
            forge.abandon(0, 0);
        }
        return forge;
    }

    private static void reviewerRefused() {
        Edge.says(48, "Returns whether the person was none.");
        ReviewForge forge = one();
        Edge.due("was none", forge.addReviewer(5, 0), true);
        Edge.due("was one", forge.addReviewer(5, 0), false);
        forge.vote(1, 0, 0, REVIEW, 0);
        Edge.due("was one by a vote", forge.addReviewer(1, 0), false);
        Edge.due("not seen, as it is private", hidden().addReviewer(4, 0), true);
        Edge.says(48, "Throws `IndexOutOfBoundsException` if there is no such person or change");
        Edge.index("a person behind", PeopleEdges::one, some -> some.addReviewer(6, 0) ? 1 : 0);
        Edge.index("a person ahead", PeopleEdges::one, some -> some.addReviewer(-1, 0) ? 1 : 0);
        Edge.index("a change behind", PeopleEdges::one, some -> some.addReviewer(1, 1) ? 1 : 0);
        Edge.index("a change ahead", PeopleEdges::one, some -> some.addReviewer(1, -1) ? 1 : 0);
        Edge.index("a person behind, abandoned", () -> ended(false), some -> some.addReviewer(6, 0) ? 1 : 0);
        Edge.says(48, "Throws `IllegalStateException` if the change is not OPEN, or the person is its owner");
        Edge.state("abandoned", () -> ended(false), some -> some.addReviewer(1, 0) ? 1 : 0);
        Edge.state("landed", () -> ended(true), some -> some.addReviewer(1, 0) ? 1 : 0);
        Edge.state("its owner", PeopleEdges::one, some -> some.addReviewer(0, 0) ? 1 : 0);
        Edge.allowed("the one beside it", PeopleEdges::one, some -> some.addReviewer(1, 0) ? 1 : 0);
        Edge.says(49, "Returns the people, as a set.");
        ReviewForge all = one();
        for (int person = 1; person < 6; person++) {
            all.addReviewer(person, 0);
        }
        Edge.due("all but the owner", all.reviewers(0), 62);
        Edge.says(49, "Throws `IndexOutOfBoundsException` if there is no such change");
        Edge.index("one behind", PeopleEdges::one, some -> some.reviewers(1));
        Edge.index("one ahead", PeopleEdges::one, some -> some.reviewers(-1));
        Edge.says(50, "Returns the people, as a set.");
        Edge.due("all but the owner", all.whoseTurn(0), 62);
        all.upload(1, 0);
        Edge.due("the owner as well", all.whoseTurn(0), 61);
        Edge.says(50, "Throws `IndexOutOfBoundsException` if there is no such change");
        Edge.index("one behind", PeopleEdges::one, some -> some.whoseTurn(1));
        Edge.index("one ahead", PeopleEdges::one, some -> some.whoseTurn(-1));
    }

    private static void watching() {
        Edge.says(51, "Returns whether it did.");
        ReviewForge forge = one();
        for (int person = 0; person < 6; person += 5) {
            for (int repository = 0; repository < 2; repository++) {
                Edge.due("at first", forge.watch(person, repository, true), false);
                Edge.due("then", forge.watch(person, repository, true), true);
                Edge.due("still", forge.watch(person, repository, false), true);
                Edge.due("no more", forge.watch(person, repository, false), false);
            }
        }
        Edge.says(51, "Throws `IndexOutOfBoundsException` if there is no such person or repository");
        Edge.index("a person behind", PeopleEdges::one, some -> some.watch(6, 0, true) ? 1 : 0);
        Edge.index("a person ahead", PeopleEdges::one, some -> some.watch(-1, 0, true) ? 1 : 0);
        Edge.index("a repository behind", PeopleEdges::one, some -> some.watch(0, 2, true) ? 1 : 0);
        Edge.index("a repository ahead", PeopleEdges::one, some -> some.watch(0, -1, true) ? 1 : 0);
        Edge.says(52, "Returns how many.");
        Edge.due("none", forge.mails(5), 0);
        forge.upload(1, 0);
        Edge.due("one", forge.mails(0), 1);
        Edge.says(52, "Throws `IndexOutOfBoundsException` if there is no such person");
        Edge.index("one behind", PeopleEdges::one, some -> some.mails(6));
        Edge.index("one ahead", PeopleEdges::one, some -> some.mails(-1));
    }

    /** A house on this day, by the fewest calls. */
    private static ReviewForge onDay(int day) {
        ReviewForge forge = one();
        while (forge.day() < day) {
            forge.advance(Math.min(100, day - forge.day()));
        }
        forge.restore(0);
        return forge;
    }

    private static void days() {
        Edge.says(53, "Returns how many changes are ABANDONED by that.");
        Edge.due("none", one().advance(29), 0);
        ReviewForge twenty = new ReviewForge();
        for (int change = 0; change < 20; change++) {
            twenty.open(0);
        }
        Edge.due("all of 20", twenty.advance(30), 20);
        Edge.says(53, "Throws `IllegalArgumentException` if days is out of range");
        Edge.allowed("1", PeopleEdges::one, forge -> forge.advance(1));
        Edge.argument("0", PeopleEdges::one, forge -> forge.advance(0));
        Edge.argument("-1", PeopleEdges::one, forge -> forge.advance(-1));
        Edge.allowed("100", PeopleEdges::one, forge -> forge.advance(100));
        Edge.argument("101", PeopleEdges::one, forge -> forge.advance(101));
        Edge.argument("so many that it wraps around", () -> onDay(10000), forge -> forge.advance(Integer.MAX_VALUE));
        Edge.argument("far below", PeopleEdges::one, forge -> forge.advance(Integer.MIN_VALUE));
        Edge.argument("101 on the last day", () -> onDay(10000), forge -> forge.advance(101));
        Edge.argument("0 on the last day", () -> onDay(10000), forge -> forge.advance(0));
        Edge.says(53, "Throws `IllegalStateException` if the day would be above 10000");
        Edge.allowed("10000, by 1", () -> onDay(9999), forge -> forge.advance(1));
        Edge.allowed("10000, by 100", () -> onDay(9900), forge -> forge.advance(100));
        Edge.state("10001, by 1", () -> onDay(10000), forge -> forge.advance(1));
        Edge.state("10001, by 2", () -> onDay(9999), forge -> forge.advance(2));
        Edge.state("10001, by 100", () -> onDay(9901), forge -> forge.advance(100));
        ReviewForge late = onDay(9970);
        Edge.due("on the last day all is as ever", late.advance(30), 1);
        Edge.says(54, "Returns the day.");
        Edge.due("the first one", new ReviewForge().day(), 0);
        Edge.due("the last one", late.day(), 10000);
    }
}
