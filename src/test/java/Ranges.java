import java.lang.reflect.InvocationTargetException;
import java.lang.reflect.Method;
import java.util.ArrayList;
import java.util.Arrays;
import java.util.List;

/**
 * Each call with all combinations of arguments at the edges of their ranges: the last ones that are allowed, the first
 * ones that are not, and those far away; on a house where most calls are allowed, and on one that is full and in which
 * all has landed, so that each call that can be refused for the state of the house is. Of several exceptions that
 * apply the one that the document names first is due.
 */
final class Ranges {
    private static final int MIN = Integer.MIN_VALUE;
    private static final int MAX = Integer.MAX_VALUE;

    /** Which exceptions apply beside those of the ranges alone: letters of "IAS". */
    interface Rule {
        String refusals(int... arguments);
    }

    /** The kind is I or A for the exception that is due out of the range, B for a truth value. */
    private record Param(String told, char kind, int first, int last) {
        int[] values() {
            if (kind == 'B') {
                return new int[] {0, 1};
            }
            List<Integer> values = new ArrayList<>(List.of(MIN, first, last));
            values.add(first - 1);
            if (last < MAX) {
                values.add(last + 1);
                values.add(MAX);
            }
            if (last == 3) {
                values.add(1);
                values.add(2);
            }
            return values.stream().distinct().mapToInt(Integer::intValue).toArray();
        }

        boolean isRight(int value) {
            return value >= first && value <= last;
        }
    }

    private static final Rule NONE = arguments -> "";
    private static final Rule STATE = arguments -> "S";

    private final boolean isFull;
    private ReviewForge refusing;

    private Ranges(boolean itIsFull) {
        isFull = itIsFull;
    }

    static void run() {
        new Ranges(false).all();
        new Ranges(true).all();
    }

    // ---- the houses

    private static void fillAll(ReviewForge forge) {
        for (int file = 0; file < 4; file++) {
            House.fill(forge, file, 1, 2, 3);
        }
    }

    /** Changes 0 to 2 with patch sets 0 and 1: 0 is open, 1 is its outdated child, 2 is abandoned; 0 to 2 own them. */
    private static ReviewForge plainHouse() {
        ReviewForge forge = new ReviewForge();
        for (int change = 0; change < 3; change++) {
            forge.take(change == 1 ? 2 : 0);
            fillAll(forge);
            forge.open(change);
            forge.upload(change, change);
        }
        forge.comment(1, 0, 0, 0, 0, 1, true);
        forge.publish(1, 0);
        forge.answer(2, 0, false);
        forge.publish(2, 0);
        forge.comment(1, 0, 1, 3, 2, 1, true);
        forge.find(0, 1, 0, 0, 1, 5);
        forge.find(0, 1, 1, 0, 1, 5);
        forge.addRule(8, 1, 0);
        forge.dropRule(1);
        forge.addRule(9, 1, 0);
        forge.abandon(2, 2);
        forge.take(0);
        fillAll(forge);
        return forge;
    }

    /** 80 commits, 20 changes that have landed, with patch sets 0 to 2, 60 comments, 40 findings, 20 rules. */
    private static ReviewForge fullHouse() {
        ReviewForge forge = new ReviewForge();
        forge.addRule(15, 0, 0);
        forge.setWay(1, ReviewForge.FORWARD);
        for (int change = 0; change < 20; change++) {
            forge.take(change < 18 ? 0 : forge.tip(1));
            fillAll(forge);
            forge.open(0);
            forge.upload(0, change);
            forge.upload(0, change);
            forge.land(0, change);
        }
        for (int comment = 0; comment < 60; comment++) {
            forge.comment(0, 0, 2, 0, 0, 1, true);
        }
        forge.publish(0, 0);
        for (int finding = 0; finding < 40; finding++) {
            forge.find(0, 2, 0, 0, 1, 7);
        }
        for (int rule = 2; rule < 20; rule++) {
            forge.addRule(8, 0, 0);
        }
        forge.dropRule(3);
        for (int time = 0; time < 100; time++) {
            forge.advance(100);
        }
        forge.take(0);
        for (int file = 0; file < 4; file++) {
            House.fillUp(forge, file);
        }
        return forge;
    }

    private ReviewForge house() {
        return isFull ? fullHouse() : plainHouse();
    }

    // ---- the calls

    private void all() {
        refusing = house();
        Edge.says("A call that throws an exception changes nothing; if several exceptions apply, the one that its"
                + " @throws lines name first is thrown.");
        Edge.due("commits of the house", refusing.commits(), isFull ? 80 : 8);
        Edge.due("changes of the house", refusing.changes(), isFull ? 20 : 3);
        commitsAndDesk();
        changes();
        differencesAndComments();
        findingsAndOwners();
        votesAndRules();
        landingAndPeople();
    }

    private void commitsAndDesk() {
        int size = isFull ? 10 : 3;
        Rule full = isFull ? STATE : NONE;
        row(2, "take", NONE, commit("`commit`: a commit", 0));
        row(3, "takeSet", NONE, change(), set("`set`: a patch set of it"));
        row(4, "put", full, file(), index("`place`: 0 to how many lines it has", 0, size), argument("`line`: 0 to 399", 0, 399));
        row(5, "cut", NONE, file(), index("`place`: the place of a line", 0, size - 1));
        row(7, "line", NONE, commit("`commit`: a commit, or NONE for the desk", -1), file(), index("`place`: from 0", 0, MAX));
        row(8, "before", NONE, commit("`commit`: a commit, or NONE for the desk, whose base is told", -1));
        row(9, "tip", NONE, repository());
        row(10, "namedAfter", NONE, commit("`commit`: a commit", 0));
    }

    private void changes() {
        Rule notOpen = isFull ? STATE : of -> of[of.length - 1] == 2 ? "S" : "";
        row(11, "open", isFull ? STATE : NONE, index("`person`: 0 to 5: its owner, who uploads", 0, 5));
        row(12, "upload", notOpen, person(), change());
        row(13, "rebase", isFull ? STATE : of -> of[1] == 1 ? "" : "S", index("`person`: 0 to 5: who uploads", 0, 5), change());
        row(14, "abandon", notOpen, index("`person`: 0 to 5: who does that", 0, 5), change());
        row(15, "restore", isFull ? STATE : of -> of[0] == 2 ? "" : "S", change());
        row(16, "setFlags", isFull ? STATE : of -> of[0] == 2 ? "S" : "", change(),
                truth("`isInWork`: whether it is in work from now on"), truth("`isPrivate`: whether it is private from now on"));
        row(17, "setTopic", NONE, change(), argument("`topic`: 0 to 3, or NONE", -1, 3));
        row(19, "stateOf", NONE, change());
        row(20, "sets", NONE, change());
        row(21, "commitOf", NONE, change(), set("`set`: a patch set of it"));
        row(22, "kindOf", NONE, change(), set("`set`: a patch set of it"));
        row(23, "parentOf", NONE, change());
    }

    private void differencesAndComments() {
        int comments = isFull ? 60 : 3;
        row(24, "hunks", NONE, change(), set("`set`: a patch set of it"), set("`other`: a patch set of it"), file(),
                truth("`isByWords`: whether indents are left out"));
        row(25, "hunkAt", NONE, change(), set("`set`: a patch set of it"), set("`other`: a patch set of it"), file(),
                truth("`isByWords`: whether indents are left out"), index("`hunk`: from 0", 0, MAX));
        row(26, "comment", of -> (of[4] + (long) of[5] > 3 ? "A" : "") + (isFull ? "S" : ""), person(), change(),
                set("`set`: a patch set of it"), file(), argument("`from`: the first line", 0, 3),
                argument("`many`: how many lines, 1 or more", 1, 3),
                truth("`isUnresolved`: whether it says that the thread is unresolved"));
        row(27, "answer", isFull ? STATE : of -> of[1] == 0 ? "" : "S", person(),
                index("`comment`: a comment", 0, comments - 1),
                truth("`isUnresolved`: whether it says that the thread is unresolved"));
        row(28, "publish", isFull ? STATE : of -> of[0] == 1 && of[1] == 0 ? "" : "S", person(), change());
        row(29, "shown", NONE, index("`comment`: a comment", 0, comments - 1), set("`set`: a patch set of its change"));
        row(30, "unresolved", NONE, change());
    }

    private void findingsAndOwners() {
        row(31, "find", of -> (of[3] + (long) of[4] > 3 ? "A" : "") + (isFull ? "S" : ""), change(),
                set("`set`: a patch set of it"), file(),
                argument("`from`: the first line that its fix takes out, or the place for its line", 0, 3),
                argument("`many`: how many it takes out, 0 or more", 0, 3),
                argument("`line`: 0 to 399, or NONE: the line that comes there", -1, 399));
        row(32, "takeFixes", of -> fixesRefused(of[0], of[1]), change(),
                argument("`fixes`: which findings of its current patch set, as a set: the bit k for the k-th one of"
                        + " these, from 0, by rising numbers", 0, isFull ? MAX : 3));
        row(33, "setOwners", NONE, repository(),
                index("`level`: 0 to 3 for the files, 4 and 5 for the directories 0 and 1, 6 for the root", 0, 6),
                argument("`people`: a set, 0 to 63: the bit p for the person p", 0, 63),
                truth("`isCut`: whether the list is cut; for the root nothing comes of it"));
        row(34, "setInclude", NONE, repository(), index("`directory`: 0 or 1", 0, 1),
                truth("`isIncluded`: whether it includes it"));
        row(35, "setLastResort", NONE, person());
        row(36, "owners", NONE, repository(), file());
        row(37, "fewest", NONE, change());
    }

    /** The change 0 has two findings that do not touch, or 40 that do; the others have none. */
    private String fixesRefused(int change, int fixes) {
        if (change != 0) {
            return fixes == 0 ? "" : "A";
        }
        return isFull && Integer.bitCount(fixes) > 1 ? "S" : "";
    }

    private void votesAndRules() {
        row(38, "vote", of -> (of[3] == 1 && (of[4] == 2 || of[4] == -2) ? "A" : "") + (isFull || of[1] == 2 ? "S" : ""),
                person(), change(), set("`set`: a patch set of it"), argument("`label`: REVIEW or VERIFY", 0, 1),
                argument("`value`: -2 to 2 for REVIEW, -1 to 1 for VERIFY", -2, 2));
        row(39, "worth", NONE, person(), change(), set("`set`: a patch set of it"), argument("`label`: REVIEW or VERIFY", 0, 1));
        row(40, "setCopied", NONE, argument("`label`: REVIEW or VERIFY", 0, 1),
                argument("`kind`: REWORK, TRIVIAL or SAME", 0, 2),
                argument("`values`: a set, 0 to 31: the bit v + 2 for the value v", 0, 31));
        row(41, "addRule", of -> isFull || of[2] == 65535 ? "S" : "", argument("`statement`: 8 to 15", 8, 15),
                argument("`must`: the statements that have to hold, as a set, 0 to 65535", 0, 65535),
                argument("`mustNot`: the statements that must not hold, likewise", 0, 65535));
        row(42, "dropRule", of -> of[0] == (isFull ? 3 : 1) ? "I" : "", index("`rule`: a rule", 0, isFull ? 19 : 2));
        row(43, "statements", NONE, change());
        row(44, "lacks", NONE, change());
    }

    private void landingAndPeople() {
        Rule notOpen = isFull ? STATE : of -> of[of.length - 1] == 2 ? "S" : "";
        row(45, "setWay", NONE, repository(), argument("`way`: FORWARD, PICK or SQUASH", 0, 2));
        row(46, "group", notOpen, change());
        row(47, "land", notOpen, index("`person`: 0 to 5: who does that", 0, 5), change());
        row(48, "addReviewer", isFull ? STATE : of -> of[1] == 2 || of[0] == of[1] ? "S" : "", person(), change());
        row(49, "reviewers", NONE, change());
        row(50, "whoseTurn", NONE, change());
        row(51, "watch", NONE, person(), repository(), truth("`isWatched`: whether it watches it from now on"));
        row(52, "mails", NONE, person());
        row(53, "advance", isFull ? STATE : NONE, argument("`days`: 1 to 100", 1, 100));
    }

    // ---- the parameters

    private static Param index(String told, int first, int last) {
        return new Param(told, 'I', first, last);
    }

    private static Param argument(String told, int first, int last) {
        return new Param(told, 'A', first, last);
    }

    private static Param truth(String told) {
        return new Param(told, 'B', 0, 1);
    }

    private static Param person() {
        return index("`person`: 0 to 5", 0, 5);
    }

    private static Param repository() {
        return index("`repository`: 0 or 1", 0, 1);
    }

    private static Param file() {
        return index("`file`: 0 to 3", 0, 3);
    }

    private Param commit(String told, int first) {
        return index(told, first, isFull ? 79 : 7);
    }

    private Param change() {
        return index("`change`: a change", 0, isFull ? 19 : 2);
    }

    private Param set(String told) {
        return index(told, 0, isFull ? 2 : 1);
    }

    // ---- trying

    private void row(int promise, String name, Rule more, Param... params) {
        for (Param param : params) {
            Edge.says(promise, "- " + param.told);
        }
        Method method = find(name);
        String earlier = Snapshot.of(refusing);
        tryAll(method, more, params, new int[params.length], 0);
        Edge.alike("what is refused changes nothing", Snapshot.of(refusing), earlier);
        Edge.alike("nor what is found out later", Probe.of(refusing), Probe.of(house()));
        refusing = house();
    }

    private static Method find(String name) {
        for (Method method : ReviewForge.class.getMethods()) {
            if (method.getName().equals(name)) {
                return method;
            }
        }
        throw new IllegalStateException("no call " + name);
    }

    private void tryAll(Method method, Rule more, Param[] params, int[] values, int at) {
        if (at < params.length) {
            for (int value : params[at].values()) {
                values[at] = value;
                tryAll(method, more, params, values, at + 1);
            }
            return;
        }
        String want = expected(more, params, values);
        ReviewForge forge = want.equals("allowed") ? house() : refusing;
        String got = call(forge, method, params, values);
        if (!got.equals(want)) {
            Edge.due(method.getName() + Arrays.toString(values) + (isFull ? ", full" : ""), got, want);
        }
    }

    private static String expected(Rule more, Param[] params, int[] values) {
        StringBuilder refusals = new StringBuilder();
        for (int at = 0; at < params.length; at++) {
            if (!params[at].isRight(values[at])) {
                refusals.append(params[at].kind);
            }
        }
        if (refusals.indexOf("I") < 0) {
            refusals.append(more.refusals(values.clone()));
        }
        return refusals.indexOf("I") >= 0 ? "IndexOutOfBoundsException"
                : refusals.indexOf("A") >= 0 ? "IllegalArgumentException"
                : refusals.indexOf("S") >= 0 ? "IllegalStateException" : "allowed";
    }

    private static String call(ReviewForge forge, Method method, Param[] params, int[] values) {
        Object[] arguments = new Object[values.length];
        for (int at = 0; at < values.length; at++) {
            arguments[at] = params[at].kind == 'B' ? (Object) (values[at] == 1) : (Object) values[at];
        }
        try {
            method.invoke(forge, arguments);
            return "allowed";
        } catch (InvocationTargetException thrown) {
            return Expect.nameOf(thrown.getCause());
        } catch (IllegalAccessException closed) {
            throw new IllegalStateException(closed);
        }
    }
}
