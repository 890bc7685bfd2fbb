/** The boundary cases of facts, rules and what a change lacks: promises 41 to 44. */
final class RuleEdges {
    private static final int NONE = ReviewForge.NONE;
    private static final int REVIEW = ReviewForge.REVIEW;
    private static final int VERIFY = ReviewForge.VERIFY;
    /** What holds for a change that changes nothing, and for which nothing has been done. */
    private static final int AT_FIRST = 1 + 2 + 8 + 64;

    private RuleEdges() {
    }

    static void run() {
        requirements();
        statements();
        factsOfVotes();
        factsOfTheChange();
        factsOfTheParent();
        numbers();
        holding();
        hanging();
        theFirstRule();
        lacking();
        addingRefused();
        dropping();
        told();
    }

    private static void requirements() {
        Edge.says("Whatever lands had its requirements met by votes that count for its very content, and no comment is shown on a line"
                + " about which it was not made.");
        ReviewForge forge = House.with(1);
        forge.setLastResort(1);
        forge.open(0);
        forge.vote(1, 0, 0, REVIEW, 2);
        forge.vote(1, 0, 0, VERIFY, 1);
        forge.comment(1, 0, 0, 0, 0, 1, false);
        Edge.due("it would land", forge.lacks(0), 0);
        House.uploadOn(forge, 0, 0, 0, 0, 2);
        Edge.due("another content", forge.lacks(0), 5);
        Edge.due("it does not land", forge.land(0, 0), 0);
        Edge.due("the comment is not shown there", forge.shown(0, 1), 0);
        forge.vote(1, 0, 0, REVIEW, 2);
        Edge.due("a vote for the one before does not count", forge.land(0, 0), 0);
        forge.vote(1, 0, 1, REVIEW, 2);
        forge.vote(1, 0, 1, VERIFY, 1);
        forge.upload(0, 0);
        Edge.due("the very same content", forge.land(0, 0), 1);
    }

    private static boolean holds(ReviewForge forge, int statement) {
        return (forge.statements(0) >> statement & 1) == 1;
    }

    private static void statements() {
        Edge.says("For a change there are 16 statements.");
        ReviewForge forge = House.opened();
        Edge.due("at first", forge.statements(0), AT_FIRST);
        forge.addRule(8, 0, 0);
        forge.addRule(15, 0, 0);
        Edge.due("the first and the last that follows", forge.statements(0), AT_FIRST + 256 + 32768);
        Edge.says("The first 8 are facts of it, by its current patch set, and by what votes are worth on that:");
        ReviewForge sets = House.opened(1);
        sets.vote(1, 0, 0, REVIEW, -1);
        sets.vote(1, 0, 0, VERIFY, 1);
        House.uploadOn(sets, 0, 0, 0, 0);
        Edge.due("the current one changes nothing", holds(sets, 0), true);
        Edge.due("the vote is not copied to it", holds(sets, 2), false);
        Edge.says("The others follow from rules.");
        Edge.due("without a rule none does", House.opened().statements(0) >> 8, 0);
    }

    private static void factsOfVotes() {
        Edge.says("0: each file that is not the same in it as in its base has an owner who votes 2 in REVIEW, and is not the owner"
                + " of the change.");
        ReviewForge forge = House.with(1);
        forge.put(3, 0, 1);
        forge.setOwners(0, 0, 1 + 2, false);
        forge.setOwners(0, 3, 4, false);
        forge.open(0);
        Edge.due("no votes", holds(forge, 0), false);
        forge.vote(0, 0, 0, REVIEW, 2);
        forge.vote(2, 0, 0, REVIEW, 2);
        Edge.due("one by its owner alone", holds(forge, 0), false);
        forge.vote(1, 0, 0, REVIEW, 1);
        Edge.due("1 does not do", holds(forge, 0), false);
        forge.vote(1, 0, 0, REVIEW, 2);
        Edge.due("each has one", holds(forge, 0), true);
        forge.vote(5, 0, 0, REVIEW, -2);
        Edge.due("others do not matter", holds(forge, 0), true);
        forge.vote(2, 0, 0, REVIEW, 0);
        Edge.due("the last file has none", holds(forge, 0), false);
        Edge.due("no file is changed", holds(House.opened(), 0), true);
        Edge.says("1: nobody votes -2 in REVIEW.");
        ReviewForge votes = House.opened(1);
        Edge.due("nobody at all", holds(votes, 1), true);
        votes.vote(1, 0, 0, REVIEW, -1);
        Edge.due("-1", holds(votes, 1), true);
        votes.vote(0, 0, 0, REVIEW, -2);
        Edge.due("-2 of the owner", votes.statements(0), 8 + 64);
        votes.vote(0, 0, 0, REVIEW, 2);
        votes.vote(5, 0, 0, REVIEW, -2);
        Edge.due("-2 of the last person", holds(votes, 1), false);
        Edge.says("2: somebody votes 1 in VERIFY, and nobody -1.");
        Edge.due("nobody", holds(votes, 2), false);
        votes.vote(5, 0, 0, VERIFY, 1);
        Edge.due("the last person", holds(votes, 2), true);
        votes.vote(0, 0, 0, VERIFY, -1);
        Edge.due("and -1", holds(votes, 2), false);
        votes.vote(0, 0, 0, VERIFY, 0);
        Edge.due("and 0", holds(votes, 2), true);
        votes.vote(5, 0, 0, VERIFY, 0);
        Edge.due("0 alone", holds(votes, 2), false);
        Edge.says("7: somebody votes 2 in REVIEW who has not uploaded its current patch set.");
        ReviewForge upload = House.opened(1);
        upload.vote(0, 0, 0, REVIEW, 2);
        Edge.due("who has uploaded", holds(upload, 7), false);
        upload.vote(1, 0, 0, REVIEW, 1);
        Edge.due("1 of somebody else", holds(upload, 7), false);
        upload.vote(1, 0, 0, REVIEW, 2);
        Edge.due("2 of somebody else", holds(upload, 7), true);
        upload.vote(0, 0, 0, REVIEW, 0);
        upload.upload(1, 0);
        Edge.due("who has uploaded the current one, with a vote that is copied", holds(upload, 7), false);
        upload.vote(0, 0, 1, REVIEW, 2);
        Edge.due("the owner, who has not uploaded that", holds(upload, 7), true);
    }

    private static void factsOfTheChange() {
        Edge.says("3: no thread is unresolved.");
        ReviewForge forge = House.opened(1);
        Edge.due("without a thread", holds(forge, 3), true);
        forge.comment(1, 0, 0, 0, 0, 1, false);
        forge.publish(1, 0);
        Edge.due("a resolved one", holds(forge, 3), true);
        forge.comment(1, 0, 0, 0, 0, 1, true);
        Edge.due("a draft", holds(forge, 3), true);
        forge.publish(1, 0);
        Edge.due("an unresolved one", forge.statements(0), 2 + 64);
        Edge.says("4: it is in work.");
        forge.setFlags(0, true, false);
        Edge.due("4, but not 5", forge.statements(0), 2 + 16 + 64);
        Edge.says("5: it is private.");
        forge.setFlags(0, false, true);
        Edge.due("5, but not 4", forge.statements(0), 2 + 32 + 64);
    }

    private static void factsOfTheParent() {
        Edge.says("6: it has no parent, or this is LANDED (or lands with it, when it lands).");
        ReviewForge forge = House.opened(1);
        House.openOn(forge, 2, 1, 1);
        Edge.due("without a parent", forge.statements(0) & 64, 64);
        Edge.due("an open one", forge.statements(1) & 64, 0);
        forge.abandon(0, 0);
        Edge.due("an abandoned one", forge.statements(1) & 64, 0);
        forge.restore(0);
        forge.dropRule(0);
        forge.addRule(15, 64, 0);
        Edge.due("not ready by itself", forge.lacks(1), 64);
        Edge.due("it lands with it", forge.land(0, 1), 2);
        ReviewForge landed = House.allReady(House.opened(1));
        House.openOn(landed, 2, 1, 1);
        landed.land(0, 0);
        Edge.due("a landed one", landed.statements(1) & 64, 64);
        ReviewForge alone = House.opened(1);
        House.openOn(alone, 2, 1, 1);
        alone.dropRule(0);
        alone.addRule(15, 64, 0);
        alone.abandon(0, 0);
        Edge.due("an abandoned one does not land with it", alone.land(0, 1), 0);
    }

    /** A house with so many rules, the rule 0 among them, all for 8. */
    private static ReviewForge rules(int many) {
        ReviewForge forge = House.opened(1);
        for (int rule = 1; rule < many; rule++) {
            forge.addRule(8, 128, 0);
        }
        return forge;
    }

    private static void numbers() {
        Edge.says("Rules are numbered from 0; there can be 20, dropped ones counted.");
        Edge.due("the first that is added", rules(1).addRule(8, 0, 0), 1);
        Edge.due("the last one", rules(19).addRule(8, 0, 0), 19);
        Edge.state("one more", () -> rules(20), forge -> forge.addRule(8, 0, 0));
        ReviewForge dropped = rules(19);
        for (int rule = 0; rule < 19; rule++) {
            dropped.dropRule(rule);
        }
        Edge.due("dropped ones keep their numbers", dropped.addRule(15, 0, 0), 19);
        Edge.due("the last one is followed", holds(dropped, 15), true);
        Edge.state("all dropped", () -> {
            ReviewForge forge = rules(20);
            for (int rule = 0; rule < 20; rule++) {
                forge.dropRule(rule);
            }
            return forge;
        }, forge -> forge.addRule(8, 0, 0));
        Edge.says("A rule has a statement, 8 to 15, and conditions, some statements that have to hold, and some that must not.");
        Edge.due("the least statement", rules(1).addRule(8, 0, 0), 1);
        Edge.due("the greatest statement", rules(1).addRule(15, 0, 0), 1);
        Edge.due("all have to hold", rules(1).addRule(15, 65535, 0), 1);
        Edge.due("all but the others' must not", rules(1).addRule(15, 0, 32767), 1);
        Edge.argument("a fact", () -> rules(1), forge -> forge.addRule(7, 0, 0));
        Edge.argument("none", () -> rules(1), forge -> forge.addRule(16, 0, 0));
    }

    private static void holding() {
        Edge.says("A statement from 8 on holds if there is a rule for it of which all conditions are so.");
        ReviewForge forge = House.opened(1);
        Edge.due("2, 8 and 64 hold", forge.statements(0), 2 + 8 + 64);
        forge.addRule(8, 0, 0);
        Edge.due("no conditions", holds(forge, 8), true);
        forge.addRule(9, 2 + 8, 1 + 4);
        Edge.due("all are so", holds(forge, 9), true);
        forge.addRule(10, 2 + 4, 0);
        Edge.due("one does not hold", holds(forge, 10), false);
        forge.addRule(11, 2, 1 + 8);
        Edge.due("one holds that must not", holds(forge, 11), false);
        forge.addRule(12, 2, 2);
        Edge.due("one that has to and must not", holds(forge, 12), false);
        forge.addRule(13, 256, 1024);
        Edge.due("of statements that follow", holds(forge, 13), true);
        forge.addRule(10, 8, 0);
        Edge.due("another rule for it", holds(forge, 10), true);
        Edge.due("so that one follows no more", holds(forge, 13), false);
        forge.addRule(14, 16384, 0);
        Edge.due("one that hangs on itself alone does not follow", holds(forge, 14), false);
        ReviewForge chain = House.opened(1);
        for (int statement = 15; statement > 8; statement--) {
            chain.addRule(statement, 1 << statement - 1, 0);
        }
        Edge.due("a chain without a beginning", chain.statements(0) >> 8, 0);
        chain.addRule(8, 0, 0);
        Edge.due("from the last to the first", chain.statements(0) >> 8, 255);
        ReviewForge up = House.opened(1);
        for (int statement = 8; statement < 15; statement++) {
            up.addRule(statement, 2 << statement, 0);
        }
        up.addRule(15, 0, 0);
        Edge.due("from the first to the last", up.statements(0) >> 8, 255);
    }

    private static ReviewForge with(int... rules) {
        ReviewForge forge = House.opened(1);
        for (int at = 0; at < rules.length; at += 3) {
            forge.addRule(rules[at], rules[at + 1], rules[at + 2]);
        }
        return forge;
    }

    private static void hanging() {
        Edge.says("No statement may hang on itself by way of one that must not hold, directly or by other rules (a rule that would"
                + " bring that about is refused);");
        Edge.state("directly", () -> with(), forge -> forge.addRule(8, 0, 256));
        Edge.state("directly, the last one", () -> with(), forge -> forge.addRule(15, 0, 32768));
        Edge.state("among others", () -> with(), forge -> forge.addRule(15, 0, 65535));
        Edge.state("by one that it must hold as well", () -> with(), forge -> forge.addRule(8, 256, 256));
        Edge.allowed("on itself by one that has to hold", () -> with(), forge -> forge.addRule(8, 256, 0));
        Edge.state("by one other rule, that must not here", () -> with(9, 256, 0), forge -> forge.addRule(8, 0, 512));
        Edge.state("by one other rule, that must not there", () -> with(9, 0, 256), forge -> forge.addRule(8, 512, 0));
        Edge.state("in both", () -> with(9, 0, 256), forge -> forge.addRule(8, 0, 512));
        Edge.allowed("in none", () -> with(9, 256, 0), forge -> forge.addRule(8, 512, 0));
        Edge.state("the must not is elsewhere in the circle",
                () -> with(9, 0, 256, 10, 512, 0, 11, 1024, 0), forge -> forge.addRule(8, 2048, 0));
        Edge.state("the circle of all",
                () -> with(9, 256, 0, 10, 512, 0, 11, 1024, 0, 12, 2048, 0, 13, 4096, 0, 14, 8192, 0, 15, 16384, 0),
                forge -> forge.addRule(8, 0, 32768));
        Edge.allowed("the circle of all, where each has to hold",
                () -> with(9, 256, 0, 10, 512, 0, 11, 1024, 0, 12, 2048, 0, 13, 4096, 0, 14, 8192, 0, 15, 16384, 0),
                forge -> forge.addRule(8, 32768, 0));
        Edge.allowed("the last one of a chain of all",
                () -> with(9, 0, 256, 10, 0, 512, 11, 0, 1024, 12, 0, 2048, 13, 0, 4096, 14, 0, 8192),
                forge -> forge.addRule(15, 0, 16384));
        Edge.allowed("a must not beside a circle", () -> with(9, 256, 0, 8, 512, 0), forge -> forge.addRule(10, 0, 256 + 512));
        Edge.state("a must not into it and back", () -> with(9, 256, 0, 8, 512, 0, 10, 0, 256), forge -> forge.addRule(9, 1024, 0));
        Edge.state("also by a rule that is never met", () -> with(9, 256 + 1, 1), forge -> forge.addRule(8, 0, 512));
        Edge.allowed("facts that must not hold", () -> with(), forge -> forge.addRule(8, 0, 255));
        Edge.allowed("by a rule that was dropped", () -> {
            ReviewForge forge = with(9, 256, 0);
            forge.dropRule(1);
            return forge;
        }, forge -> forge.addRule(8, 0, 512));
        Edge.says("so each holds just if it follows, when those that must not hold are found ahead of those for which they must not.");
        Edge.due("8 not, so 9", with(9, 0, 256).statements(0) >> 8, 2);
        Edge.due("8, so not 9, so 10", with(9, 0, 256, 10, 0, 512, 8, 0, 0).statements(0) >> 8, 1 + 4);
        Edge.due("a chain of all, one on, one off",
                with(15, 0, 16384, 14, 0, 8192, 13, 0, 4096, 12, 0, 2048, 11, 0, 1024, 10, 0, 512, 9, 0, 256).statements(0) >> 8, 170);
        Edge.due("by way of one that has to hold", with(10, 512, 0, 9, 256, 0, 11, 0, 1024, 8, 0, 0).statements(0) >> 8, 7);
        Edge.due("a circle that does not follow must not hold", with(9, 256, 0, 8, 512, 0, 10, 0, 256).statements(0) >> 8, 4);
    }

    private static void theFirstRule() {
        Edge.says("At first there is the rule 0: 15 if 0, 1, 2, and neither 4 nor 5.");
        for (int lacking = -1; lacking < 8; lacking++) {
            ReviewForge forge = House.with(1);
            forge.setLastResort(1);
            forge.open(0);
            House.openOn(forge, 2, 1, 1);
            int change = lacking == 6 ? 1 : 0;
            forge.vote(1, change, 0, REVIEW, lacking == 0 ? 1 : 2);
            forge.vote(1, change, 0, VERIFY, lacking == 2 ? 0 : 1);
            if (lacking == 1) {
                forge.vote(2, change, 0, REVIEW, -2);
            }
            if (lacking == 3) {
                forge.comment(1, 0, 0, 0, 0, 1, true);
                forge.publish(1, 0);
            }
            forge.setFlags(change, lacking == 4, lacking == 5);
            boolean isAsked = lacking >= 0 && lacking < 6 && lacking != 3;
            Edge.due("but not " + lacking, forge.statements(change) >> 15, isAsked ? 0 : 1);
        }
        Edge.says("A change is ready if 15 holds.");
        ReviewForge forge = House.opened(1);
        Edge.due("it does not", forge.land(0, 0), 0);
        forge.addRule(15, 0, 0);
        Edge.due("it does", forge.land(0, 0), 1);
    }

    private static void lacking() {
        Edge.says("What it lacks is the smallest set of facts such that 15 would hold, if just these were the other way; of several"
                + " the lowest one as a number; none, if there is no such set.");
        Edge.due("0 and 2", House.opened(1).lacks(0), 5);
        Edge.due("none, as 15 holds", with(15, 0, 0).lacks(0), 0);
        Edge.due("one that would have to hold", only(15, 128, 0).lacks(0), 128);
        Edge.due("one that would have not to", only(15, 0, 64).lacks(0), 64);
        Edge.due("all eight", only(15, 255 - 74, 74).lacks(0), 255);
        Edge.due("the smallest rather than the lowest", only(15, 5, 0, 15, 128, 0).lacks(0), 128);
        Edge.due("of two the lowest", only(15, 128, 0, 15, 32, 0, 15, 16, 0).lacks(0), 16);
        Edge.due("of two of two the lowest", only(15, 128 + 1, 0, 15, 32 + 16, 0).lacks(0), 48);
        Edge.due("by way of others", only(15, 256, 0, 8, 512, 0, 9, 128, 0).lacks(0), 128);
        Edge.due("by way of one that must not hold", only(15, 0, 256, 8, 64, 0).lacks(0), 64);
        Edge.due("there is no rule for 15", only(8, 0, 0).lacks(0), NONE);
        Edge.due("a fact both ways", only(15, 1, 1).lacks(0), NONE);
        Edge.due("a statement without a rule", only(15, 256, 0).lacks(0), NONE);
        Edge.due("a statement that always holds must not", only(8, 0, 0, 15, 0, 256).lacks(0), NONE);
        Edge.due("just these: the others stay as they are", only(15, 128, 2).lacks(0), 130);
    }

    /** The rule 0 is dropped. */
    private static ReviewForge only(int... rules) {
        ReviewForge forge = with(rules);
        forge.dropRule(0);
        return forge;
    }

    private static void addingRefused() {
        Edge.says(41, "Returns its number.");
        Edge.due("the first one", rules(1).addRule(15, 0, 0), 1);
        Edge.says(41, "Throws `IllegalArgumentException` if statement, must or mustNot is out of range");
        Edge.argument("a statement behind", () -> rules(1), forge -> forge.addRule(16, 0, 0));
        Edge.argument("a statement ahead", () -> rules(1), forge -> forge.addRule(7, 0, 0));
        Edge.argument("far ahead", () -> rules(1), forge -> forge.addRule(Integer.MIN_VALUE, 0, 0));
        Edge.argument("must above all", () -> rules(1), forge -> forge.addRule(8, 65536, 0));
        Edge.argument("must below none", () -> rules(1), forge -> forge.addRule(8, -1, 0));
        Edge.argument("mustNot above all", () -> rules(1), forge -> forge.addRule(8, 0, 65536));
        Edge.argument("mustNot below none", () -> rules(1), forge -> forge.addRule(8, 0, -1));
        Edge.argument("also with 20 rules", () -> rules(20), forge -> forge.addRule(8, 65536, 0));
        Edge.argument("also if it hangs on itself", () -> rules(1), forge -> forge.addRule(8, -1, 256));
        Edge.says(41, "Throws `IllegalStateException` if a statement would hang on itself by way of one that must not hold, or there"
                + " are 20 rules");
        Edge.allowed("19 rules", () -> rules(19), forge -> forge.addRule(8, 0, 0));
        Edge.state("20 rules", () -> rules(20), forge -> forge.addRule(8, 0, 0));
        Edge.state("it hangs on itself", () -> rules(1), forge -> forge.addRule(8, 0, 256));
        ReviewForge refused = rules(1);
        for (int time = 0; time < 30; time++) {
            try {
                refused.addRule(8, 0, 256);
            } catch (IllegalStateException again) {
                Edge.due("no number is used by that", refused.statements(0), 2 + 8 + 64);
            }
        }
        Edge.due("the next number", refused.addRule(8, 0, 0), 1);
    }

    private static void dropping() {
        Edge.says(42, "Drops a rule; its number is not used again.");
        ReviewForge forge = rules(3);
        Edge.due("the last one", forge.dropRule(2), 8);
        Edge.due("the next number", forge.addRule(9, 0, 0), 3);
        Edge.says(42, "Returns its statement.");
        Edge.due("the rule 0", rules(1).dropRule(0), 15);
        Edge.due("the rule 19", rules(20).dropRule(19), 8);
        Edge.says(42, "Throws `IndexOutOfBoundsException` if there is no such rule, or it was dropped");
        Edge.index("one behind", () -> rules(2), some -> some.dropRule(2));
        Edge.index("one behind all", () -> rules(20), some -> some.dropRule(20));
        Edge.index("one ahead", () -> rules(2), some -> some.dropRule(-1));
        Edge.index("dropped", () -> {
            ReviewForge some = rules(2);
            some.dropRule(1);
            return some;
        }, some -> some.dropRule(1));
        Edge.index("the rule 0, dropped", () -> only(), some -> some.dropRule(0));
        Edge.index("one that was refused", () -> {
            ReviewForge some = rules(1);
            try {
                some.addRule(8, 0, 256);
            } catch (IllegalStateException refused) {
                Edge.due("its rules", some.statements(0) >> 8, 0);
            }
            return some;
        }, some -> some.dropRule(1));
    }

    private static void told() {
        Edge.says(43, "Returns the statements, as a set.");
        Edge.due("the fact 1, 3 and 6", House.opened(1).statements(0), 2 + 8 + 64);
        Edge.says(43, "Throws `IndexOutOfBoundsException` if there is no such change");
        Edge.index("one behind", () -> rules(1), forge -> forge.statements(1));
        Edge.index("one ahead", () -> rules(1), forge -> forge.statements(-1));
        Edge.says(44, "Returns the facts, as a set; 0 if it is ready; NONE if there is no such set.");
        Edge.due("ready", with(15, 0, 0).lacks(0), 0);
        Edge.due("no such set", only().lacks(0), NONE);
        Edge.due("the last fact", only(15, 128, 0).lacks(0), 128);
        Edge.says(44, "Throws `IndexOutOfBoundsException` if there is no such change");
        Edge.index("one behind", () -> rules(1), forge -> forge.lacks(1));
        Edge.index("one ahead", () -> rules(1), forge -> forge.lacks(-1));
    }
}
