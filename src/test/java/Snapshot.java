/** All that can be asked of a house of code review without changing it, as a text. */
final class Snapshot {
    private Snapshot() {
    }

    static String of(ReviewForge forge) {
        StringBuilder text = new StringBuilder();
        text.append("day ").append(forge.day());
        for (int commit = ReviewForge.NONE; commit < forge.commits(); commit++) {
            tellCommit(forge, commit, text);
        }
        for (int change = 0; change < forge.changes(); change++) {
            tellChange(forge, change, text);
        }
        for (int comment = 0; comment < 60; comment++) {
            tellComment(forge, comment, text);
        }
        for (int repository = 0; repository < 2; repository++) {
            text.append("\ntip ").append(forge.tip(repository));
            for (int file = 0; file < 4; file++) {
                text.append(" owners ").append(forge.owners(repository, file));
            }
        }
        for (int person = 0; person < 6; person++) {
            text.append(" mails ").append(forge.mails(person));
        }
        return text.toString();
    }

    private static void tellCommit(ReviewForge forge, int commit, StringBuilder text) {
        text.append("\ncommit ").append(commit).append(" before ").append(forge.before(commit));
        if (commit >= 0) {
            text.append(" named ").append(forge.namedAfter(commit));
        }
        for (int file = 0; file < 4; file++) {
            text.append(" /");
            for (int place = 0; place <= 10; place++) {
                text.append(' ').append(forge.line(commit, file, place));
            }
        }
    }

    private static void tellChange(ReviewForge forge, int change, StringBuilder text) {
        text.append("\nchange ").append(change).append(" state ").append(forge.stateOf(change));
        text.append(" parent ").append(forge.parentOf(change)).append(" reviewers ").append(forge.reviewers(change));
        text.append(" turn ").append(forge.whoseTurn(change)).append(" fewest ").append(forge.fewest(change));
        text.append(" statements ").append(forge.statements(change)).append(" lacks ").append(forge.lacks(change));
        text.append(" unresolved ").append(forge.unresolved(change));
        if (forge.stateOf(change) == ReviewForge.OPEN) {
            text.append(" group ").append(forge.group(change));
        }
        for (int set = 0; set < forge.sets(change); set++) {
            text.append(" set ").append(forge.commitOf(change, set)).append(' ').append(forge.kindOf(change, set));
            for (int person = 0; person < 6; person++) {
                text.append(' ').append(forge.worth(person, change, set, ReviewForge.REVIEW));
                text.append(' ').append(forge.worth(person, change, set, ReviewForge.VERIFY));
            }
        }
    }

    private static void tellComment(ReviewForge forge, int comment, StringBuilder text) {
        text.append("\ncomment");
        for (int set = 0; set < 80; set++) {
            try {
                text.append(' ').append(forge.shown(comment, set));
            } catch (IndexOutOfBoundsException none) {
                return;
            }
        }
    }
}
