/** The boundary cases of comments: promises 26 to 30. */
final class CommentEdges {
    private CommentEdges() {
    }

    static void run() {
        numbers();
        rowsOfLines();
        threads();
        following();
        lookingFor();
        fewerThanMade();
        commentRefused();
        answerRefused();
        publishRefused();
        whatIsTold();
    }

    /** A change of the person 0 with three lines, and so many comments of the person 1, published but for the last. */
    private static ReviewForge comments(int many) {
        ReviewForge forge = House.opened(1, 2, 3);
        for (int comment = 0; comment < many; comment++) {
            if (comment == many - 1 && many > 1) {
                forge.publish(1, 0);
            }
            forge.comment(1, 0, 0, 0, 0, 1, true);
        }
        return forge;
    }

    private static void numbers() {
        Edge.says("Comments are numbered from 0; there can be 60.");
        Edge.due("the first one", comments(0).comment(1, 0, 0, 0, 0, 1, true), 0);
        Edge.due("the last one", comments(59).comment(1, 0, 0, 0, 0, 1, true), 59);
        Edge.due("the last one is an answer", comments(59).answer(1, 0, true), 59);
        Edge.state("one more", () -> comments(60), forge -> forge.comment(1, 0, 0, 0, 0, 1, true));
        Edge.state("one more that is an answer", () -> comments(60), forge -> forge.answer(1, 0, true));
        Edge.due("the last one can be published", comments(60).publish(1, 0), 1);
    }

    private static void rowsOfLines() {
        Edge.says("on a row of lines of a file (one or more),");
        ReviewForge forge = House.opened(House.row(0, 10));
        forge.comment(1, 0, 0, 0, 0, 1, true);
        forge.comment(1, 0, 0, 0, 9, 1, true);
        forge.comment(1, 0, 0, 0, 0, 10, true);
        forge.comment(1, 0, 0, 0, 4, 6, true);
        int[] due = {1, 512, 1023, 1008};
        for (int comment = 0; comment < due.length; comment++) {
            Edge.due("the lines of the comment " + comment, forge.shown(comment, 0), due[comment]);
        }
        Edge.argument("none", () -> House.opened(House.row(0, 10)), some -> some.comment(1, 0, 0, 0, 0, 0, true));
        Edge.argument("eleven", () -> House.opened(House.row(0, 10)), some -> some.comment(1, 0, 0, 0, 0, 11, true));
        Edge.says("or it answers a published comment that answers none, and is on the same lines as that.");
        forge.publish(1, 0);
        Edge.due("an answer", forge.answer(2, 3, true), 4);
        Edge.due("its lines", forge.shown(4, 0), 1008);
        House.uploadOn(forge, 0, 0, 0, 0, 4, 5);
        Edge.due("as they are shown later", forge.shown(4, 1), 3);
        Edge.due("those of what it answers", forge.shown(3, 1), 3);
    }

    private static void threads() {
        Edge.says("A comment that answers none, and those that answer it, are a thread, told by that number.");
        ReviewForge forge = comments(3);
        forge.publish(1, 0);
        Edge.due("three threads", forge.unresolved(0), 3);
        forge.answer(2, 1, false);
        forge.publish(2, 0);
        Edge.due("an answer resolves its own", forge.unresolved(0), 2);
        Edge.says("A comment is a draft first, until its author publishes all that it has drafted for the change.");
        ReviewForge drafts = comments(1);
        drafts.comment(2, 0, 0, 0, 0, 1, true);
        drafts.comment(1, 0, 0, 0, 1, 1, true);
        House.openOn(drafts, 0, 0, 1);
        drafts.comment(1, 1, 0, 0, 0, 1, true);
        Edge.due("drafts are not unresolved", drafts.unresolved(0), 0);
        Edge.due("all of the author for the change", drafts.publish(1, 0), 2);
        Edge.due("these are", drafts.unresolved(0), 2);
        Edge.due("not those for another one", drafts.unresolved(1), 0);
        Edge.due("which can be published later", drafts.publish(1, 1), 1);
        Edge.due("as those of somebody else", drafts.publish(2, 0), 1);
        Edge.says("A thread is unresolved, if that one of its published comments with the greatest number says so.");
        boolean[] says = {true, false};
        for (boolean first : says) {
            for (boolean second : says) {
                ReviewForge thread = House.opened(1);
                thread.comment(1, 0, 0, 0, 0, 1, first);
                thread.publish(1, 0);
                Edge.due("one alone", thread.unresolved(0), first ? 1 : 0);
                thread.answer(2, 0, second);
                thread.answer(3, 0, !second);
                Edge.due("answers that are drafts", thread.unresolved(0), first ? 1 : 0);
                thread.publish(2, 0);
                Edge.due("the first answer", thread.unresolved(0), second ? 1 : 0);
                thread.publish(3, 0);
                Edge.due("the second answer", thread.unresolved(0), second ? 0 : 1);
            }
        }
    }

    /** On which lines a comment about some lines of the first file is shown in each of the next ones. */
    private static String shown(int from, int many, int[]... files) {
        ReviewForge forge = House.opened(files[0]);
        forge.comment(1, 0, 0, 0, from, many, true);
        StringBuilder text = new StringBuilder();
        text.append(forge.shown(0, 0));
        for (int at = 1; at < files.length; at++) {
            House.uploadOn(forge, 0, 0, 0, 0, files[at]);
            text.append(' ').append(forge.shown(0, at));
        }
        return text.toString();
    }

    private static void following() {
        Edge.says("A comment is followed from patch set to patch set: its lines are those of the row with which the file has a"
                + " pair for them, from one patch set to the next one, if both are compared; it is shown on those that are left.");
        Edge.due("the same file", shown(0, 3, House.of(1, 2, 3), House.of(1, 2, 3)), "7 7");
        Edge.due("a line comes ahead", shown(0, 3, House.of(1, 2, 3), House.of(9, 1, 2, 3)), "7 14");
        Edge.due("a line comes in between", shown(0, 3, House.of(1, 2, 3), House.of(1, 9, 2, 3)), "7 13");
        Edge.due("one is left", shown(0, 3, House.of(1, 2, 3), House.of(3)), "7 1");
        Edge.due("what is left is followed alone", shown(0, 3, House.of(1, 2, 3), House.of(3), House.of(1, 2, 3)), "7 1 4");
        Edge.due("other lines are not its own", shown(0, 1, House.of(1, 2, 3), House.of(2, 3)), "1 0");
        Edge.due("the pair is that of the whole file", shown(1, 1, House.of(5, 5), House.of(9, 5, 9, 5)), "2 8");
        Edge.due("the first of two", shown(0, 1, House.of(5, 5), House.of(5)), "1 1");
        Edge.due("to the tenth line", shown(0, 1, House.of(5), House.of(9, 9, 9, 9, 9, 9, 9, 9, 9, 5)), "1 512");
        Edge.due("from the tenth line", shown(9, 1, House.row(0, 10), House.of(9)), "512 1");
        Edge.due("ten lines", shown(0, 10, House.row(0, 10), House.row(0, 10)), "1023 1023");
        Edge.due("an indent is another line", shown(0, 2, House.of(1, 2), House.of(101, 2)), "3 2");
        Edge.says("In patch sets before its own it is not shown.");
        ReviewForge forge = House.opened(1);
        forge.upload(0, 0);
        forge.upload(0, 0);
        forge.comment(1, 0, 1, 0, 0, 1, true);
        Edge.due("the one before", forge.shown(0, 0), 0);
        Edge.due("its own", forge.shown(0, 1), 1);
        Edge.due("the one behind", forge.shown(0, 2), 1);
    }

    private static void lookingFor() {
        Edge.says("In a patch set in which none is left, it is looked for: if the lines about which it was made are there in"
                + " its file, as they were, one behind the other, at just one place, it is found, and followed from there;"
                + " otherwise it is lost there, and looked for in the next one.");
        int[] old = House.of(1, 2, 3, 4);
        Edge.due("an empty file", shown(1, 2, old, House.of()), "6 0");
        Edge.due("found in the next one", shown(1, 2, old, House.of(), House.of(2, 3)), "6 0 3");
        Edge.due("found in the one behind that", shown(1, 2, old, House.of(), House.of(9), House.of(9, 2, 3)), "6 0 0 6");
        Edge.due("followed from there", shown(1, 2, old, House.of(), House.of(2, 3), House.of(3)), "6 0 3 1");
        Edge.due("not as they were: an indent", shown(1, 2, old, House.of(), House.of(2, 103)), "6 0 0");
        Edge.due("not one behind the other", shown(1, 2, old, House.of(), House.of(2, 9, 3)), "6 0 0");
        Edge.due("not all of them", shown(1, 2, old, House.of(), House.of(2)), "6 0 0");
        Edge.due("the other way round", shown(1, 2, old, House.of(), House.of(3, 2)), "6 0 0");
        Edge.due("at two places", shown(1, 2, old, House.of(), House.of(2, 3, 2, 3)), "6 0 0");
        Edge.due("at two places, then at one", shown(1, 2, old, House.of(), House.of(2, 3, 2, 3), House.of(2, 3)), "6 0 0 3");
        Edge.due("at three places", shown(1, 1, old, House.of(), House.of(2, 2, 2)), "2 0 0");
        Edge.due("at two places that share a line", shown(0, 2, House.of(1, 1), House.of(), House.of(1, 1, 1)), "3 0 0");
        Edge.due("at the end of ten lines", shown(1, 2, old, House.of(), House.of(9, 9, 9, 9, 9, 9, 9, 9, 2, 3)), "6 0 768");
        Edge.due("at the beginning and at the end", shown(1, 1, old, House.of(), House.of(2, 9, 9, 9, 9, 9, 9, 9, 9, 2)), "2 0 0");
        Edge.due("ten lines", shown(0, 10, House.row(0, 10), House.of(), House.row(0, 10)), "1023 0 1023");
        Edge.due("ten lines of which one is gone", shown(0, 10, House.row(0, 10), House.of(), House.row(0, 9)), "1023 0 0");
        Edge.due("found in the same patch set in which it goes", shown(0, 1, House.of(1, 2, 3), House.of(2, 3, 1)), "1 4");
        Edge.due("twice there, so it is lost", shown(0, 1, House.of(1, 2, 3), House.of(2, 3, 1, 1)), "1 0");
        Edge.due("all its lines are moved", shown(0, 2, House.of(1, 2, 3, 4, 5), House.of(3, 4, 5, 1, 2)), "3 24");
        ReviewForge forge = House.opened(1);
        forge.comment(1, 0, 0, 0, 0, 1, true);
        forge.take(0);
        House.fill(forge, 1, 1);
        forge.upload(0, 0);
        Edge.due("just in its own file", forge.shown(0, 1), 0);
    }

    private static void fewerThanMade() {
        Edge.says("it is shown on those that are left. In a patch set in which none is left, it is looked for:");
        int[] old = House.of(1, 2, 3);
        Edge.due("one is left: it is not looked for", shown(0, 2, old, House.of(2), House.of(1, 2)), "3 1 2");
        Edge.due("none is left: all are looked for", shown(0, 2, old, House.of(2), House.of(), House.of(1, 2)), "3 1 0 3");
        Edge.due("one is left, the lines are there at another place", shown(0, 2, old, House.of(2, 9, 9), House.of(9, 9, 1, 2)),
                "3 1 12");
    }

    private static ReviewForge hidden() {
        ReviewForge forge = comments(2);
        forge.addReviewer(2, 0);
        forge.comment(3, 0, 0, 0, 0, 1, true);
        forge.setFlags(0, false, true);
        return forge;
    }

    private static void commentRefused() {
        Edge.says(26, "Returns its number.");
        Edge.due("the first one", comments(0).comment(1, 0, 0, 0, 0, 1, true), 0);
        Edge.says(26, "Throws `IndexOutOfBoundsException` if there is no such person, change, patch set or file");
        Edge.index("a person behind", () -> comments(1), forge -> forge.comment(6, 0, 0, 0, 0, 1, true));
        Edge.index("a person ahead", () -> comments(1), forge -> forge.comment(-1, 0, 0, 0, 0, 1, true));
        Edge.index("a change behind", () -> comments(1), forge -> forge.comment(0, 1, 0, 0, 0, 1, true));
        Edge.index("a change ahead", () -> comments(1), forge -> forge.comment(0, -1, 0, 0, 0, 1, true));
        Edge.index("a set behind", () -> comments(1), forge -> forge.comment(0, 0, 1, 0, 0, 1, true));
        Edge.index("a set ahead", () -> comments(1), forge -> forge.comment(0, 0, -1, 0, 0, 1, true));
        Edge.index("a file behind, no lines", () -> comments(1), forge -> forge.comment(0, 0, 0, 4, 9, 0, true));
        Edge.index("a file ahead", () -> comments(60), forge -> forge.comment(0, 0, 0, -1, 0, 1, true));
        Edge.says(26, "Throws `IllegalArgumentException` if there are no such lines, or many is below 1");
        Edge.allowed("the last line", () -> comments(1), forge -> forge.comment(0, 0, 0, 0, 2, 1, true));
        Edge.argument("behind it", () -> comments(1), forge -> forge.comment(0, 0, 0, 0, 3, 1, true));
        Edge.argument("ahead of the first one", () -> comments(1), forge -> forge.comment(0, 0, 0, 0, -1, 1, true));
        Edge.argument("from ahead to the first one", () -> comments(1), forge -> forge.comment(0, 0, 0, 0, -1, 2, true));
        Edge.allowed("all", () -> comments(1), forge -> forge.comment(0, 0, 0, 0, 0, 3, true));
        Edge.argument("one more than all", () -> comments(1), forge -> forge.comment(0, 0, 0, 0, 0, 4, true));
        Edge.argument("one more than are left", () -> comments(1), forge -> forge.comment(0, 0, 0, 0, 1, 3, true));
        Edge.argument("none", () -> comments(1), forge -> forge.comment(0, 0, 0, 0, 0, 0, true));
        Edge.argument("fewer than none", () -> comments(1), forge -> forge.comment(0, 0, 0, 0, 2, -1, true));
        Edge.argument("so many that it wraps around", () -> comments(1),
                forge -> forge.comment(0, 0, 0, 0, 2, Integer.MAX_VALUE, true));
        Edge.argument("both far below", () -> comments(1),
                forge -> forge.comment(0, 0, 0, 0, Integer.MIN_VALUE, Integer.MIN_VALUE, true));
        Edge.argument("an empty file", () -> comments(1), forge -> forge.comment(0, 0, 0, 3, 0, 1, true));
        Edge.argument("also with 60 comments", () -> comments(60), forge -> forge.comment(0, 0, 0, 0, 3, 1, true));
        Edge.argument("also if it is not seen", CommentEdges::hidden, forge -> forge.comment(5, 0, 0, 0, 3, 1, true));
        Edge.says(26, "Throws `IllegalStateException` if the person cannot see the change, or there are 60 comments");
        Edge.state("somebody else", CommentEdges::hidden, forge -> forge.comment(5, 0, 0, 0, 0, 1, true));
        Edge.state("who has a draft alone", CommentEdges::hidden, forge -> forge.comment(3, 0, 0, 0, 0, 1, true));
        Edge.allowed("its owner", CommentEdges::hidden, forge -> forge.comment(0, 0, 0, 0, 0, 1, true));
        Edge.allowed("who has published", CommentEdges::hidden, forge -> forge.comment(1, 0, 0, 0, 0, 1, true));
        Edge.allowed("who was added", CommentEdges::hidden, forge -> forge.comment(2, 0, 0, 0, 0, 1, true));
        Edge.allowed("59 comments", () -> comments(59), forge -> forge.comment(0, 0, 0, 0, 0, 1, true));
        Edge.state("60 comments", () -> comments(60), forge -> forge.comment(0, 0, 0, 0, 0, 1, true));
    }

    /** The comment 0 is published, 1 is an answer, 2 an answer that is a draft, 3 a draft. */
    private static ReviewForge thread() {
        ReviewForge forge = comments(1);
        forge.publish(1, 0);
        forge.answer(2, 0, false);
        forge.publish(2, 0);
        forge.answer(3, 0, true);
        forge.comment(3, 0, 0, 0, 0, 1, true);
        return forge;
    }

    private static ReviewForge hiddenThread() {
        ReviewForge forge = thread();
        forge.setFlags(0, false, true);
        return forge;
    }

    /** The change 1 of the person 5, with a thread of the person 4 on its patch set 0; one of both changes is private. */
    private static ReviewForge twoChanges(int hidden) {
        ReviewForge forge = House.opened(1);
        forge.open(5);
        forge.comment(4, 1, 0, 0, 0, 1, true);
        forge.publish(4, 1);
        forge.setFlags(hidden, false, true);
        return forge;
    }

    private static void answerRefused() {
        Edge.says(27, "Returns its number.");
        Edge.due("the next one", thread().answer(4, 0, true), 4);
        Edge.says(27, "Throws `IndexOutOfBoundsException` if there is no such person or comment");
        Edge.index("a person behind", CommentEdges::thread, forge -> forge.answer(6, 0, true));
        Edge.index("a person ahead", CommentEdges::thread, forge -> forge.answer(-1, 0, true));
        Edge.index("a comment behind", CommentEdges::thread, forge -> forge.answer(0, 4, true));
        Edge.index("a comment ahead", CommentEdges::thread, forge -> forge.answer(0, -1, true));
        Edge.index("no person, a draft", CommentEdges::thread, forge -> forge.answer(6, 3, true));
        Edge.index("none of 60", () -> comments(60), forge -> forge.answer(0, 60, true));
        Edge.says(27, "Throws `IllegalStateException` if the comment is a draft, or an answer, the person cannot see the"
                + " change, or there are 60 comments");
        Edge.allowed("a published one", CommentEdges::thread, forge -> forge.answer(0, 0, true));
        Edge.allowed("of one's own", CommentEdges::thread, forge -> forge.answer(1, 0, true));
        Edge.state("a draft", CommentEdges::thread, forge -> forge.answer(0, 3, true));
        Edge.state("a draft of one's own", CommentEdges::thread, forge -> forge.answer(3, 3, true));
        Edge.state("an answer", CommentEdges::thread, forge -> forge.answer(0, 1, true));
        Edge.state("an answer that is a draft", CommentEdges::thread, forge -> forge.answer(0, 2, true));
        Edge.state("not seen", CommentEdges::hiddenThread, forge -> forge.answer(4, 0, true));
        Edge.state("not seen, of another change", () -> twoChanges(1), forge -> forge.answer(0, 0, true));
        Edge.allowed("the other one is not seen", () -> twoChanges(0), forge -> forge.answer(3, 0, true));
        Edge.allowed("its owner", CommentEdges::hiddenThread, forge -> forge.answer(0, 0, true));
        Edge.allowed("a reviewer", CommentEdges::hiddenThread, forge -> forge.answer(2, 0, true));
        Edge.allowed("59 comments", () -> comments(59), forge -> forge.answer(0, 0, true));
        Edge.state("60 comments", () -> comments(60), forge -> forge.answer(0, 0, true));
    }

    private static void publishRefused() {
        Edge.says(28, "Returns how many they are.");
        Edge.due("one", comments(1).publish(1, 0), 1);
        ReviewForge many = House.opened(1);
        for (int comment = 0; comment < 60; comment++) {
            many.comment(1, 0, 0, 0, 0, 1, true);
        }
        Edge.due("as many as there can be", many.publish(1, 0), 60);
        Edge.due("all are unresolved", many.unresolved(0), 60);
        Edge.says(28, "Throws `IndexOutOfBoundsException` if there is no such person or change");
        Edge.index("a person behind", () -> comments(1), forge -> forge.publish(6, 0));
        Edge.index("a person ahead", () -> comments(1), forge -> forge.publish(-1, 0));
        Edge.index("a change behind", () -> comments(1), forge -> forge.publish(1, 1));
        Edge.index("a change ahead", () -> comments(1), forge -> forge.publish(1, -1));
        Edge.says(28, "Throws `IllegalStateException` if the person cannot see it, or has no draft for it");
        Edge.state("none at all", () -> comments(0), forge -> forge.publish(1, 0));
        Edge.state("of somebody else", () -> comments(1), forge -> forge.publish(2, 0));
        Edge.state("for another change", () -> {
            ReviewForge forge = comments(1);
            House.openOn(forge, 0, 0, 1);
            return forge;
        }, forge -> forge.publish(1, 1));
        Edge.state("published already", () -> {
            ReviewForge forge = comments(1);
            forge.publish(1, 0);
            return forge;
        }, forge -> forge.publish(1, 0));
        Edge.state("not seen any more", CommentEdges::hidden, forge -> forge.publish(3, 0));
        Edge.allowed("a reviewer", CommentEdges::hidden, forge -> forge.publish(1, 0));
        Edge.allowed("who became a reviewer", () -> {
            ReviewForge forge = hidden();
            forge.addReviewer(3, 0);
            return forge;
        }, forge -> forge.publish(3, 0));
        Edge.allowed("an answer alone", CommentEdges::thread, forge -> forge.publish(3, 0));
    }

    private static void whatIsTold() {
        Edge.says(29, "Returns the lines, as a set: the bit k for the line k; 0 if it is lost there, or the patch set is before"
                + " its own.");
        Edge.due("the line 0", shown(0, 1, House.row(0, 10)), "1");
        Edge.due("the line 9", shown(9, 1, House.row(0, 10)), "512");
        Edge.due("lost", shown(9, 1, House.row(0, 10), House.of()), "512 0");
        ReviewForge forge = House.opened(1);
        forge.upload(0, 0);
        forge.comment(1, 0, 1, 0, 0, 1, true);
        Edge.due("before its own", forge.shown(0, 0), 0);
        Edge.says(29, "Throws `IndexOutOfBoundsException` if there is no such comment or patch set");
        Edge.index("a comment behind", () -> comments(2), some -> some.shown(2, 0));
        Edge.index("a comment ahead", () -> comments(2), some -> some.shown(-1, 0));
        Edge.index("a set behind", () -> comments(2), some -> some.shown(0, 1));
        Edge.index("a set ahead", () -> comments(2), some -> some.shown(0, -1));
        Edge.index("a set of another change", () -> {
            ReviewForge some = comments(1);
            some.open(0);
            some.upload(0, 1);
            return some;
        }, some -> some.shown(0, 1));
        Edge.says(30, "Returns how many.");
        Edge.due("without a comment", comments(0).unresolved(0), 0);
        Edge.due("of 59 that are published", comments(60).unresolved(0), 59);
        Edge.says(30, "Throws `IndexOutOfBoundsException` if there is no such change");
        Edge.index("one behind", () -> comments(2), some -> some.unresolved(1));
        Edge.index("one ahead", () -> comments(2), some -> some.unresolved(-1));
    }
}
