import java.util.ArrayList;
import java.util.Arrays;

/**
 * A house of code review: changes with patch sets on commits, differences, comments that follow their lines,
 * findings with fixes, owners of files, votes, requirements as rules, landing in groups, turns, mails and days.
 * The numbered promises of the document tell what each call does.
 */
public final class ReviewForge {
    public static final int NONE = -1;
    public static final int OPEN = 0;
    public static final int LANDED = 1;
    public static final int ABANDONED = 2;
    public static final int REWORK = 0;
    public static final int TRIVIAL = 1;
    public static final int SAME = 2;
    public static final int REVIEW = 0;
    public static final int VERIFY = 1;
    public static final int FORWARD = 0;
    public static final int PICK = 1;
    public static final int SQUASH = 2;

    private static final int PEOPLE = 6;
    private static final int REPOSITORIES = 2;
    private static final int FILES = 4;
    private static final int DIRECTORIES = 2;
    private static final int LABELS = 2;
    private static final int KINDS = 3;
    private static final int STATEMENTS = 16;
    private static final int FACTS = 8;
    private static final int TOPICS = 4;
    private static final int MOST_LINES = 10;
    private static final int WORDS = 100;
    private static final int LINE_END = 400;
    private static final int MOST_COMMITS = 80;
    private static final int MOST_CHANGES = 20;
    private static final int MOST_COMMENTS = 60;
    private static final int MOST_FINDINGS = 40;
    private static final int MOST_RULES = 20;
    private static final int DAYS_OF_REST = 30;
    private static final int MOST_DAYS_AT_ONCE = 100;
    private static final int LAST_DAY = 10000;
    /** The bits of an int that a set of fixes can use. */
    private static final int SET_BITS = 31;
    private static final int READY = 15;

    private final Store store;
    private final Comparer comparer;
    private final Votes votes;
    private final Rules rules;
    private final OwnerLists ownerLists;
    private final ArrayList<Change> changeList;
    private final ArrayList<Comment> commentList;
    private final ArrayList<Finding> findingList;
    private final Landing landing;
    private final int[] watchers;
    private final int[] mailCounts;
    private int today;

    public ReviewForge() {
        store = new Store();
        comparer = new Comparer(store);
        votes = new Votes(store);
        rules = new Rules();
        ownerLists = new OwnerLists();
        changeList = new ArrayList<Change>();
        commentList = new ArrayList<Comment>();
        findingList = new ArrayList<Finding>();
        landing = new Landing(store, comparer, changeList);
        watchers = new int[REPOSITORIES];
        mailCounts = new int[PEOPLE];
        today = 0;
    }

    // ---- commits and the desk

    public int take(int commit) throws IndexOutOfBoundsException {
        needCommit(commit);
        store.copyFiles(commit, Store.DESK);
        return moveDesk(commit);
    }

    public int takeSet(int change, int set) throws IndexOutOfBoundsException {
        int commit = needSet(needChange(change), set);
        store.copyFiles(commit, Store.DESK);
        int base = store.baseOf(commit);
        moveDesk(base);
        return base;
    }

    public int put(int file, int place, int line)
            throws IndexOutOfBoundsException, IllegalArgumentException, IllegalStateException {
        needFile(file);
        int size = store.sizeOf(Store.DESK, file);
        if (place < 0 || place > size) {
            throw new IndexOutOfBoundsException("no such place");
        }
        if (line < 0 || line >= LINE_END) {
            throw new IllegalArgumentException("no such line");
        }
        if (size >= MOST_LINES) {
            throw new IllegalStateException("the file is full");
        }
        store.insertOnDesk(file, place, line);
        return size + 1;
    }

    public int cut(int file, int place) throws IndexOutOfBoundsException {
        needFile(file);
        if (place < 0 || place >= store.sizeOf(Store.DESK, file)) {
            throw new IndexOutOfBoundsException("no such place");
        }
        int line = store.lineAt(Store.DESK, file, place);
        store.removeFromDesk(file, place);
        return line;
    }

    public int commits() {
        return store.count;
    }

    public int line(int commit, int file, int place) throws IndexOutOfBoundsException {
        int row = needCommitOrDesk(commit);
        needFile(file);
        if (place < 0) {
            throw new IndexOutOfBoundsException("no such place");
        }
        return store.lineAt(row, file, place);
    }

    public int before(int commit) throws IndexOutOfBoundsException {
        return store.baseOf(needCommitOrDesk(commit));
    }

    public int tip(int repository) throws IndexOutOfBoundsException {
        needRepository(repository);
        return store.tipOf(repository);
    }

    public int namedAfter(int commit) throws IndexOutOfBoundsException {
        needCommit(commit);
        return store.nameOf(commit);
    }

    // ---- changes

    public int open(int person) throws IndexOutOfBoundsException, IllegalStateException {
        needPerson(person);
        if (changeList.size() >= MOST_CHANGES || store.isFull()) {
            throw new IllegalStateException("no room for a change");
        }
        int base = store.baseOf(Store.DESK);
        Change its = new Change(changeList.size(), person, store.repositoryOf(base));
        changeList.add(its);
        addSet(person, its, Store.DESK, base);
        return its.number;
    }

    public int upload(int person, int change) throws IndexOutOfBoundsException, IllegalStateException {
        needPerson(person);
        Change its = needChange(change);
        needOpenAndSeen(person, its);
        int base = store.baseOf(Store.DESK);
        if (store.repositoryOf(base) != its.repository) {
            throw new IllegalStateException("the desk is of another repository");
        }
        if (isAtOrAbove(change, store.changeOf(base))) {
            throw new IllegalStateException("the change would be above itself");
        }
        needRoomForCommit();
        return addSet(person, its, Store.DESK, base);
    }

    public int rebase(int person, int change) throws IndexOutOfBoundsException, IllegalStateException {
        needPerson(person);
        Change its = needChange(change);
        needOpenAndSeen(person, its);
        int current = store.currentOf(change);
        int base = store.baseOf(current);
        int newBase = newBaseOf(its);
        if (newBase == base) {
            throw new IllegalStateException("the base is the new one already");
        }
        needRoomForCommit();
        if (!comparer.mergeRows(base, current, newBase)) {
            throw new IllegalStateException("a conflict");
        }
        return addSet(person, its, Store.MADE, newBase);
    }

    public int abandon(int person, int change) throws IndexOutOfBoundsException, IllegalStateException {
        needPerson(person);
        Change its = needChange(change);
        needOpenAndSeen(person, its);
        endChange(its, ABANDONED, person);
        int children = 0;
        for (int number = 0; number < changeList.size(); number++) {
            if (changeList.get(number).state == OPEN && store.parentNumber(number) == change) {
                children++;
            }
        }
        return children;
    }

    public int restore(int change) throws IndexOutOfBoundsException, IllegalStateException {
        Change its = needChange(change);
        if (its.state != ABANDONED) {
            throw new IllegalStateException("the change is not abandoned");
        }
        its.state = OPEN;
        its.lastAct = today;
        return its.setCount - 1;
    }

    public int setFlags(int change, boolean isInWork, boolean isPrivate)
            throws IndexOutOfBoundsException, IllegalStateException {
        Change its = needChange(change);
        if (its.state != OPEN) {
            throw new IllegalStateException("the change is not open");
        }
        int flags = (its.isInWork ? 1 : 0) + (its.isPrivate ? 2 : 0);
        if (isInWork) {
            its.turns = 0;
        } else if (its.isInWork) {
            its.turns |= its.reviewerSet;
        }
        its.isInWork = isInWork;
        its.isPrivate = isPrivate;
        return flags;
    }

    public int setTopic(int change, int topic) throws IndexOutOfBoundsException, IllegalArgumentException {
        Change its = needChange(change);
        if (topic < NONE || topic >= TOPICS) {
            throw new IllegalArgumentException("no such topic");
        }
        int earlier = its.topic;
        its.topic = topic;
        return earlier;
    }

    public int changes() {
        return changeList.size();
    }

    public int stateOf(int change) throws IndexOutOfBoundsException {
        return needChange(change).state;
    }

    public int sets(int change) throws IndexOutOfBoundsException {
        return needChange(change).setCount;
    }

    public int commitOf(int change, int set) throws IndexOutOfBoundsException {
        return needSet(needChange(change), set);
    }

    public int kindOf(int change, int set) throws IndexOutOfBoundsException {
        return store.kindAt(needSet(needChange(change), set));
    }

    public int parentOf(int change) throws IndexOutOfBoundsException {
        needChange(change);
        int parent = store.parentNumber(change);
        return parent == NONE ? NONE : 10 * parent + (store.isOutdated(change) ? 1 : 0);
    }

    // ---- differences

    public int hunks(int change, int set, int other, int file, boolean isByWords)
            throws IndexOutOfBoundsException {
        return findDifference(change, set, other, file, isByWords);
    }

    public int hunkAt(int change, int set, int other, int file, boolean isByWords, int hunk)
            throws IndexOutOfBoundsException {
        int many = findDifference(change, set, other, file, isByWords);
        if (hunk < 0) {
            throw new IndexOutOfBoundsException("no such hunk");
        }
        return hunk < many ? comparer.tellLeft(hunk) : NONE;
    }

    // ---- comments

    public int comment(int person, int change, int set, int file, int from, int many, boolean isUnresolved)
            throws IndexOutOfBoundsException, IllegalArgumentException, IllegalStateException {
        needPerson(person);
        Change its = needChange(change);
        int commit = needSet(its, set);
        needFile(file);
        if (many < 1) {
            throw new IllegalArgumentException("no lines");
        }
        needLines(commit, file, from, many);
        needSeen(person, its);
        needRoomForComment();
        int number = commentList.size();
        commentList.add(new Comment(person, number, isUnresolved, new Place(change, set, file, from, many)));
        return number;
    }

    public int answer(int person, int comment, boolean isUnresolved)
            throws IndexOutOfBoundsException, IllegalStateException {
        needPerson(person);
        Comment asked = needComment(comment);
        if (!asked.isPublished || asked.thread != comment) {
            throw new IllegalStateException("the comment takes no answers");
        }
        needSeen(person, needChange(asked.place.change));
        needRoomForComment();
        commentList.add(new Comment(person, comment, isUnresolved, asked.place));
        return commentList.size() - 1;
    }

    public int publish(int person, int change) throws IndexOutOfBoundsException, IllegalStateException {
        needPerson(person);
        Change its = needChange(change);
        needSeen(person, its);
        int many = 0;
        for (int number = 0; number < commentList.size(); number++) {
            Comment draft = commentList.get(number);
            if (!draft.isPublished && draft.author == person && draft.place.change == change) {
                draft.isPublished = true;
                many++;
            }
        }
        if (many == 0) {
            throw new IllegalStateException("no drafts");
        }
        its.takePart(person);
        passTurns(person, its, true);
        noteAct(person, its);
        return many;
    }

    public int shown(int comment, int set) throws IndexOutOfBoundsException {
        Place made = needComment(comment).place;
        Change its = needChange(made.change);
        needSet(its, set);
        if (set < made.set) {
            return 0;
        }
        int home = its.commitAt(made.set);
        int rows = ((1 << made.many) - 1) << made.from;
        for (int next = made.set + 1; next <= set; next++) {
            int commit = its.commitAt(next);
            rows = comparer.follow(rows, its.commitAt(next - 1), commit, made.file);
            if (rows == 0) {
                rows = store.lookFor(made, home, commit);
            }
        }
        return rows;
    }

    public int unresolved(int change) throws IndexOutOfBoundsException {
        needChange(change);
        return countUnresolved(change);
    }

    // ---- findings

    public int find(int change, int set, int file, int from, int many, int line)
            throws IndexOutOfBoundsException, IllegalArgumentException, IllegalStateException {
        int commit = needSet(needChange(change), set);
        needFile(file);
        if (many < 0) {
            throw new IllegalArgumentException("no such lines");
        }
        needLines(commit, file, from, many);
        if (line < NONE || line >= LINE_END) {
            throw new IllegalArgumentException("no such line");
        }
        if (findingList.size() >= MOST_FINDINGS) {
            throw new IllegalStateException("no room for a finding");
        }
        findingList.add(new Finding(commit, line, new Place(change, set, file, from, many)));
        return findingList.size() - 1;
    }

    public int takeFixes(int change, int fixes)
            throws IndexOutOfBoundsException, IllegalArgumentException, IllegalStateException {
        int commit = store.currentOf(needChange(change).number);
        long chosen = chooseFixes(commit, fixes);
        if (isSomeTouching(chosen)) {
            throw new IllegalStateException("two fixes touch");
        }
        for (int file = 0; file < FILES; file++) {
            if (!makeFixedFile(commit, file, chosen)) {
                throw new IllegalStateException("a file would be too long");
            }
        }
        store.copyFiles(Store.MADE, Store.DESK);
        moveDesk(store.baseOf(commit));
        return Integer.bitCount(fixes);
    }

    // ---- owners

    public int setOwners(int repository, int level, int people, boolean isCut)
            throws IndexOutOfBoundsException, IllegalArgumentException {
        needRepository(repository);
        if (level < 0 || level >= OwnerLists.LEVELS) {
            throw new IndexOutOfBoundsException("no such level");
        }
        if (people < 0 || people >= 1 << PEOPLE) {
            throw new IllegalArgumentException("no such people");
        }
        return ownerLists.setList(repository * OwnerLists.LEVELS + level, people, isCut);
    }

    public boolean setInclude(int repository, int directory, boolean isIncluded)
            throws IndexOutOfBoundsException {
        needRepository(repository);
        if (directory < 0 || directory >= DIRECTORIES) {
            throw new IndexOutOfBoundsException("no such directory");
        }
        return ownerLists.setIncluding(repository * DIRECTORIES + directory, isIncluded);
    }

    public int setLastResort(int person) throws IndexOutOfBoundsException {
        needPerson(person);
        int earlier = ownerLists.lastResort;
        ownerLists.lastResort = person;
        return earlier;
    }

    public int owners(int repository, int file) throws IndexOutOfBoundsException {
        needRepository(repository);
        needFile(file);
        return ownerLists.ownersOf(repository, file);
    }

    public int fewest(int change) throws IndexOutOfBoundsException {
        Change its = needChange(change);
        int best = (1 << PEOPLE) - 1;
        for (int people = 0; people < 1 << PEOPLE; people++) {
            if (Integer.bitCount(people) < Integer.bitCount(best) && isOwnedBy(its, people)) {
                best = people;
            }
        }
        return best;
    }

    // ---- votes and requirements

    public int vote(int person, int change, int set, int label, int value)
            throws IndexOutOfBoundsException, IllegalArgumentException, IllegalStateException {
        needPerson(person);
        Change its = needChange(change);
        int commit = needSet(its, set);
        needLabel(label);
        int greatest = label == REVIEW ? 2 : 1;
        if (value < -greatest || value > greatest) {
            throw new IllegalArgumentException("no such value");
        }
        needOpenAndSeen(person, its);
        votes.castVote(commit, label, person, value);
        its.takePart(person);
        passTurns(person, its, false);
        noteAct(person, its);
        return votes.worthOn(its, its.setCount - 1, label, person);
    }

    public int worth(int person, int change, int set, int label)
            throws IndexOutOfBoundsException, IllegalArgumentException {
        needPerson(person);
        Change its = needChange(change);
        needSet(its, set);
        needLabel(label);
        return votes.worthOn(its, set, label, person);
    }

    public int setCopied(int label, int kind, int values) throws IllegalArgumentException {
        needLabel(label);
        if (kind < 0 || kind >= KINDS) {
            throw new IllegalArgumentException("no such kind");
        }
        if (values < 0 || values >= 1 << Votes.VALUES) {
            throw new IllegalArgumentException("no such values");
        }
        return votes.replaceCopied(label * KINDS + kind, values);
    }

    public int addRule(int statement, int must, int mustNot)
            throws IllegalArgumentException, IllegalStateException {
        if (statement < FACTS || statement >= STATEMENTS) {
            throw new IllegalArgumentException("no rule can be for that");
        }
        if (must < 0 || must >= 1 << STATEMENTS || mustNot < 0 || mustNot >= 1 << STATEMENTS) {
            throw new IllegalArgumentException("no such statements");
        }
        int number = rules.tryAdd(statement, must, mustNot);
        if (number == NONE) {
            throw new IllegalStateException("the rule is refused");
        }
        return number;
    }

    public int dropRule(int rule) throws IndexOutOfBoundsException {
        int statement = rules.tryDrop(rule);
        if (statement == NONE) {
            throw new IndexOutOfBoundsException("no such rule");
        }
        return statement;
    }

    public int statements(int change) throws IndexOutOfBoundsException {
        return rules.follow(factsOf(needChange(change), 0));
    }

    public int lacks(int change) throws IndexOutOfBoundsException {
        return rules.lackingFacts(factsOf(needChange(change), 0));
    }

    // ---- landing

    public int setWay(int repository, int way) throws IndexOutOfBoundsException, IllegalArgumentException {
        needRepository(repository);
        if (way < FORWARD || way > SQUASH) {
            throw new IllegalArgumentException("no such way");
        }
        return landing.replaceWay(repository, way);
    }

    public int group(int change) throws IndexOutOfBoundsException, IllegalStateException {
        if (needChange(change).state != OPEN) {
            throw new IllegalStateException("the change is not open");
        }
        return landing.groupOf(change);
    }

    public int land(int person, int change) throws IndexOutOfBoundsException, IllegalStateException {
        needPerson(person);
        needOpenAndSeen(person, needChange(change));
        int group = landing.groupOf(change);
        for (int number = 0; number < changeList.size(); number++) {
            if (isIn(group, number) && !canLandIn(group, changeList.get(number))) {
                return 0;
            }
        }
        if (!landing.tryAll(group)) {
            return NONE;
        }
        for (int number = 0; number < changeList.size(); number++) {
            if (isIn(group, number)) {
                endChange(changeList.get(number), LANDED, person);
            }
        }
        return Integer.bitCount(group);
    }

    // ---- turns, mails, days

    public boolean addReviewer(int person, int change) throws IndexOutOfBoundsException, IllegalStateException {
        needPerson(person);
        Change its = needChange(change);
        if (its.state != OPEN || its.owner == person) {
            throw new IllegalStateException("no reviewer can be added");
        }
        boolean isNew = !isIn(its.reviewerSet, person);
        its.reviewerSet |= 1 << person;
        its.giveTurns(1 << person);
        return isNew;
    }

    public int reviewers(int change) throws IndexOutOfBoundsException {
        return needChange(change).reviewerSet;
    }

    public int whoseTurn(int change) throws IndexOutOfBoundsException {
        return needChange(change).turns;
    }

    public boolean watch(int person, int repository, boolean isWatched) throws IndexOutOfBoundsException {
        needPerson(person);
        needRepository(repository);
        boolean wasWatched = isIn(watchers[repository], person);
        if (isWatched) {
            watchers[repository] |= 1 << person;
        } else {
            watchers[repository] &= ~(1 << person);
        }
        return wasWatched;
    }

    public int mails(int person) throws IndexOutOfBoundsException {
        needPerson(person);
        return mailCounts[person];
    }

    public int advance(int days) throws IllegalArgumentException, IllegalStateException {
        if (days < 1 || days > MOST_DAYS_AT_ONCE) {
            throw new IllegalArgumentException("no such number of days");
        }
        if (today + days > LAST_DAY) {
            throw new IllegalStateException("behind the last day");
        }
        today += days;
        int ended = 0;
        for (int number = 0; number < changeList.size(); number++) {
            Change its = changeList.get(number);
            if (its.state == OPEN && today - its.lastAct >= DAYS_OF_REST) {
                endChange(its, ABANDONED, NONE);
                ended++;
            }
        }
        return ended;
    }

    public int day() {
        return today;
    }

    // ---- what arguments have to be

    private static void needPerson(int person) {
        if (person < 0 || person >= PEOPLE) {
            throw new IndexOutOfBoundsException("no such person");
        }
    }

    private static void needRepository(int repository) {
        if (repository < 0 || repository >= REPOSITORIES) {
            throw new IndexOutOfBoundsException("no such repository");
        }
    }

    private static void needFile(int file) {
        if (file < 0 || file >= FILES) {
            throw new IndexOutOfBoundsException("no such file");
        }
    }

    private static void needLabel(int label) {
        if (label < 0 || label >= LABELS) {
            throw new IllegalArgumentException("no such label");
        }
    }

    private void needCommit(int commit) {
        if (commit < 0 || commit >= store.count) {
            throw new IndexOutOfBoundsException("no such commit");
        }
    }

    private int needCommitOrDesk(int commit) {
        if (commit == NONE) {
            return Store.DESK;
        }
        needCommit(commit);
        return commit;
    }

    private Change needChange(int change) {
        if (change < 0 || change >= changeList.size()) {
            throw new IndexOutOfBoundsException("no such change");
        }
        return changeList.get(change);
    }

    private static int needSet(Change change, int set) {
        if (set < 0 || set >= change.setCount) {
            throw new IndexOutOfBoundsException("no such patch set");
        }
        return change.commitAt(set);
    }

    private Comment needComment(int comment) {
        if (comment < 0 || comment >= commentList.size()) {
            throw new IndexOutOfBoundsException("no such comment");
        }
        return commentList.get(comment);
    }

    private void needLines(int commit, int file, int from, int many) {
        int size = store.sizeOf(commit, file);
        if (from < 0 || from > size || many > size - from) {
            throw new IllegalArgumentException("no such lines");
        }
    }

    private static void needSeen(int person, Change change) {
        if (change.isPrivate && change.owner != person && !isIn(change.reviewerSet, person)) {
            throw new IllegalStateException("the person cannot see the change");
        }
    }

    private static void needOpenAndSeen(int person, Change change) {
        if (change.state != OPEN) {
            throw new IllegalStateException("the change is not open");
        }
        needSeen(person, change);
    }

    private void needRoomForCommit() {
        if (store.isFull()) {
            throw new IllegalStateException("no room for a commit");
        }
    }

    private void needRoomForComment() {
        if (commentList.size() >= MOST_COMMENTS) {
            throw new IllegalStateException("no room for a comment");
        }
    }

    private static boolean isIn(int set, int number) {
        return (set >> number & 1) == 1;
    }

    // ---- steps of the calls

    /** Answers the repository of the new base. */
    private int moveDesk(int base) {
        return store.setDeskBase(base);
    }

    private int addSet(int person, Change change, int row, int base) {
        int earlier = store.currentOf(change.number);
        int commit = store.addCommit(row, change.repository, base);
        int kind = earlier == NONE ? REWORK : comparer.kindBetween(earlier, commit);
        store.makeSet(commit, change.number, person, kind);
        change.addCommit(commit);
        passTurns(person, change, true);
        noteAct(person, change);
        return change.setCount - 1;
    }

    private boolean isAtOrAbove(int change, int start) {
        int at = start;
        for (int step = 0; step <= MOST_CHANGES && at != NONE; step++) {
            if (at == change) {
                return true;
            }
            at = store.parentNumber(at);
        }
        return false;
    }

    /** Null without a parent. */
    private Change findParent(Change change) {
        int parent = store.parentNumber(change.number);
        return parent >= 0 && parent < changeList.size() ? changeList.get(parent) : null;
    }

    private int newBaseOf(Change change) {
        Change parent = findParent(change);
        if (parent != null && parent.state == OPEN) {
            return store.currentOf(parent.number);
        }
        if (parent != null && parent.state == LANDED) {
            return parent.landedWith;
        }
        return store.tipOf(change.repository);
    }

    private void endChange(Change change, int state, int person) {
        change.state = state;
        change.turns = 0;
        noteAct(person, change);
    }

    /** Who uploads or publishes asks for an answer; the owner who votes asks nobody. */
    private void passTurns(int person, Change change, boolean isAsking) {
        change.turns &= ~(1 << person);
        if (person != change.owner) {
            change.giveTurns(1 << change.owner);
        } else if (isAsking) {
            change.giveTurns(change.reviewerSet & ~votes.peopleWith(change, REVIEW, 2));
        }
    }

    /** All that brings mails is an act as well; the person is NONE if nobody did it. */
    private void noteAct(int person, Change change) {
        change.lastAct = today;
        int receivers = change.reviewerSet | 1 << change.owner;
        if (!change.isPrivate && !change.isInWork) {
            receivers |= watchers[change.repository];
        }
        for (int other = 0; other < PEOPLE; other++) {
            if (other != person && isIn(receivers, other)) {
                mailCounts[other]++;
            }
        }
    }

    private int findDifference(int change, int set, int other, int file, boolean isByWords) {
        Change its = needChange(change);
        int first = needSet(its, set);
        int second = needSet(its, other);
        needFile(file);
        return comparer.findLeft(first, second, file, isByWords);
    }

    private int countUnresolved(int change) {
        int many = 0;
        for (int number = 0; number < commentList.size(); number++) {
            if (commentList.get(number).place.change == change && isThreadUnresolved(number)) {
                many++;
            }
        }
        return many;
    }

    private boolean isThreadUnresolved(int thread) {
        boolean isUnresolved = false;
        for (int number = thread; number < commentList.size(); number++) {
            Comment comment = commentList.get(number);
            if (comment.thread == thread && comment.isPublished) {
                isUnresolved = comment.isUnresolved;
            }
        }
        return isUnresolved;
    }

    /** Answers the findings that the set tells, as a set: the bit n for the finding n. */
    private long chooseFixes(int commit, int fixes) {
        if (fixes < 0) {
            throw new IllegalArgumentException("no such fixes");
        }
        long chosen = 0;
        int many = 0;
        for (int number = 0; number < findingList.size(); number++) {
            if (findingList.get(number).commit == commit) {
                if (many < SET_BITS && isIn(fixes, many)) {
                    chosen |= 1L << number;
                }
                many++;
            }
        }
        if (many < SET_BITS && fixes >> many != 0) {
            throw new IllegalArgumentException("no such fixes");
        }
        return chosen;
    }

    private boolean isSomeTouching(long chosen) {
        for (int number = 0; number < findingList.size(); number++) {
            for (int other = 0; other < number; other++) {
                boolean areChosen = (chosen >> number & chosen >> other & 1L) == 1L;
                if (areChosen && findingList.get(number).place.touches(findingList.get(other).place)) {
                    return true;
                }
            }
        }
        return false;
    }

    private boolean makeFixedFile(int commit, int file, long chosen) {
        int size = store.sizeOf(commit, file);
        int kept = 0;
        store.startFile(file);
        for (int place = 0; place <= size; place++) {
            int fix = fixAt(file, place, chosen);
            if (fix != NONE) {
                Finding finding = findingList.get(fix);
                kept = place + finding.place.many;
                if (finding.line != NONE && !store.addLine(file, finding.line)) {
                    return false;
                }
            }
            if (place < size && place >= kept && !store.addLine(file, store.lineAt(commit, file, place))) {
                return false;
            }
        }
        return true;
    }

    private int fixAt(int file, int place, long chosen) {
        for (int number = 0; number < findingList.size(); number++) {
            Place its = findingList.get(number).place;
            if ((chosen >> number & 1L) == 1L && its.file == file && its.from == place) {
                return number;
            }
        }
        return NONE;
    }

    private boolean isChanged(Change change, int file) {
        int commit = store.currentOf(change.number);
        return !store.isSameFile(commit, store.baseOf(commit), file);
    }

    /** Whether each file that the change changes has an owner among the people. */
    private boolean isOwnedBy(Change change, int people) {
        for (int file = 0; file < FILES; file++) {
            if ((ownerLists.ownersOf(change.repository, file) & people) == 0 && isChanged(change, file)) {
                return false;
            }
        }
        return true;
    }

    /** The facts of a change; the changes of the group land with it (none, if it is not about to land). */
    private int factsOf(Change change, int group) {
        int approving = votes.peopleWith(change, REVIEW, 2);
        int uploader = store.uploaderOf(store.currentOf(change.number));
        int facts = 0;
        facts |= isOwnedBy(change, approving & ~(1 << change.owner)) ? 1 : 0;
        facts |= votes.peopleWith(change, REVIEW, -2) == 0 ? 1 << 1 : 0;
        facts |= votes.peopleWith(change, VERIFY, 1) != 0 && votes.peopleWith(change, VERIFY, -1) == 0 ? 1 << 2 : 0;
        facts |= countUnresolved(change.number) == 0 ? 1 << 3 : 0;
        facts |= change.isInWork ? 1 << 4 : 0;
        facts |= change.isPrivate ? 1 << 5 : 0;
        facts |= isParentSettled(change, group) ? 1 << 6 : 0;
        facts |= (approving & ~(1 << uploader)) != 0 ? 1 << 7 : 0;
        return facts;
    }

    private boolean isParentSettled(Change change, int group) {
        Change parent = findParent(change);
        return parent == null || parent.state == LANDED || isIn(group, parent.number);
    }

    private boolean canLandIn(int group, Change change) {
        return isIn(rules.follow(factsOf(change, group)), READY) && !store.isOutdated(change.number);
    }

    // ---- the parts

    /**
     * The files of all commits, and what is told of each commit. Behind the commits stand two more rows: the desk,
     * and what a merge or fixes are making, which is no commit as long as it can still fail.
     */
    private static final class Store {
        static final int DESK = MOST_COMMITS;
        static final int MADE = MOST_COMMITS + 1;
        static final int ROWS = MOST_COMMITS + 2;

        final int[] lines = new int[ROWS * FILES * MOST_LINES];
        final int[] sizes = new int[ROWS * FILES];
        final int[] repositories = new int[ROWS];
        final int[] bases = new int[ROWS];
        final int[] names = new int[ROWS];
        final int[] owningChanges = new int[ROWS];
        final int[] uploaders = new int[ROWS];
        final int[] kinds = new int[ROWS];
        final int[] tips = new int[REPOSITORIES];
        /** For each change the commit of its current patch set. */
        final int[] currents = new int[MOST_CHANGES];
        int count;

        Store() {
            Arrays.fill(names, NONE);
            Arrays.fill(owningChanges, NONE);
            Arrays.fill(currents, NONE);
            for (int repository = 0; repository < REPOSITORIES; repository++) {
                repositories[repository] = repository;
                bases[repository] = NONE;
                tips[repository] = repository;
            }
            count = REPOSITORIES;
        }

        /** NONE stands for what is not there, so that no index goes astray. */
        static int read(int[] row, int index) {
            return index >= 0 && index < row.length ? row[index] : NONE;
        }

        static void write(int[] row, int index, int value) {
            if (index >= 0 && index < row.length) {
                row[index] = value;
            }
        }

        int sizeOf(int row, int file) {
            int index = row * FILES + file;
            return index >= 0 && index < sizes.length ? sizes[index] : NONE;
        }

        int lineAt(int row, int file, int place) {
            int index = row * FILES + file;
            boolean isThere = index >= 0 && index < sizes.length && place >= 0 && place < MOST_LINES;
            return isThere && place < sizes[index] ? lines[index * MOST_LINES + place] : NONE;
        }

        int baseOf(int row) {
            return read(bases, row);
        }

        int repositoryOf(int row) {
            return read(repositories, row);
        }

        int nameOf(int row) {
            return read(names, row);
        }

        int changeOf(int row) {
            return read(owningChanges, row);
        }

        int uploaderOf(int row) {
            return read(uploaders, row);
        }

        int kindAt(int row) {
            return read(kinds, row);
        }

        int tipOf(int repository) {
            return read(tips, repository);
        }

        int currentOf(int change) {
            return read(currents, change);
        }

        /** The parent of a change. */
        int parentNumber(int change) {
            return read(owningChanges, read(bases, read(currents, change)));
        }

        boolean isOutdated(int change) {
            int parent = parentNumber(change);
            return parent != NONE && currentOf(parent) != baseOf(currentOf(change));
        }

        boolean isFull() {
            return count >= MOST_COMMITS;
        }

        private static int startOf(int row, int file) {
            return (row * FILES + file) * MOST_LINES;
        }

        void copyFiles(int from, int to) {
            for (int file = 0; file < FILES; file++) {
                int size = sizeOf(from, file);
                write(sizes, to * FILES + file, size);
                for (int place = 0; place < size; place++) {
                    write(lines, startOf(to, file) + place, lineAt(from, file, place));
                }
            }
        }

        boolean isSameFile(int row, int other, int file) {
            int size = sizeOf(row, file);
            boolean isSame = size == sizeOf(other, file);
            for (int place = 0; place < size && isSame; place++) {
                isSame = lineAt(row, file, place) == lineAt(other, file, place);
            }
            return isSame;
        }

        int setDeskBase(int base) {
            bases[DESK] = base;
            repositories[DESK] = repositoryOf(base);
            return repositories[DESK];
        }

        void insertOnDesk(int file, int place, int line) {
            int start = startOf(DESK, file);
            int size = sizeOf(DESK, file);
            for (int at = size; at > place; at--) {
                write(lines, start + at, lineAt(DESK, file, at - 1));
            }
            write(lines, start + place, line);
            write(sizes, DESK * FILES + file, size + 1);
        }

        void removeFromDesk(int file, int place) {
            int start = startOf(DESK, file);
            int size = sizeOf(DESK, file);
            for (int at = place + 1; at < size; at++) {
                write(lines, start + at - 1, lineAt(DESK, file, at));
            }
            write(sizes, DESK * FILES + file, size - 1);
        }

        void startFile(int file) {
            write(sizes, MADE * FILES + file, 0);
        }

        /** Adds a line to what is being made; false if the file is full. */
        boolean addLine(int file, int line) {
            int size = sizeOf(MADE, file);
            if (size >= MOST_LINES) {
                return false;
            }
            write(lines, startOf(MADE, file) + size, line);
            write(sizes, MADE * FILES + file, size + 1);
            return true;
        }

        /** The caller has looked for room; NONE if there is none all the same. */
        int addCommit(int row, int repository, int base) {
            if (isFull()) {
                return NONE;
            }
            int commit = count;
            copyFiles(row, commit);
            repositories[commit] = repository;
            bases[commit] = base;
            names[commit] = NONE;
            owningChanges[commit] = NONE;
            count++;
            return commit;
        }

        void makeSet(int commit, int change, int uploader, int kind) {
            write(owningChanges, commit, change);
            write(uploaders, commit, uploader);
            write(kinds, commit, kind);
            write(currents, change, commit);
        }

        /** The lines of a place of the row home, if they stand in the other row at just one place, as a set. */
        int lookFor(Place made, int home, int row) {
            int found = 0;
            int last = sizeOf(row, made.file) - made.many;
            for (int start = 0; start <= last; start++) {
                if (isAgainAt(made, home, row, start)) {
                    if (found != 0) {
                        return 0;
                    }
                    found = ((1 << made.many) - 1) << start;
                }
            }
            return found;
        }

        private boolean isAgainAt(Place made, int home, int row, int start) {
            for (int at = 0; at < made.many; at++) {
                if (lineAt(home, made.file, made.from + at) != lineAt(row, made.file, start + at)) {
                    return false;
                }
            }
            return true;
        }
    }

    /** Two files that are compared: the pairs of their lines, and the hunks between these. */
    private static final class Comparison {
        static final int WIDTH = MOST_LINES + 1;

        final int[] first = new int[MOST_LINES];
        final int[] second = new int[MOST_LINES];
        /** How many pairs can be had from a place of the first file and one of the second one on. */
        final int[] pairs = new int[WIDTH * WIDTH];
        /** For each line of the first file the place of the second one's that is paired with it. */
        final int[] mates = new int[MOST_LINES];
        final int[] dropAt = new int[WIDTH];
        final int[] drops = new int[WIDTH];
        final int[] addAt = new int[WIDTH];
        final int[] adds = new int[WIDTH];
        int firstSize;
        int secondSize;
        int count;

        void compare(Store store, int firstRow, int secondRow, int file, boolean isByWords) {
            firstSize = readLines(store, firstRow, file, isByWords, first);
            secondSize = readLines(store, secondRow, file, isByWords, second);
            countPairs();
            pairLines();
            gatherHunks();
        }

        private static int readLines(Store store, int row, int file, boolean isByWords, int[] target) {
            int size = Math.min(store.sizeOf(row, file), target.length);
            for (int place = 0; place < size; place++) {
                int line = store.lineAt(row, file, place);
                target[place] = isByWords ? line % WORDS : line;
            }
            return size;
        }

        private void countPairs() {
            for (int at = firstSize; at >= 0; at--) {
                for (int with = secondSize; with >= 0; with--) {
                    int many = 0;
                    if (at < firstSize && with < secondSize) {
                        many = first[at] == second[with] ? pairs[(at + 1) * WIDTH + with + 1] + 1
                                : Math.max(pairs[(at + 1) * WIDTH + with], pairs[at * WIDTH + with + 1]);
                    }
                    pairs[at * WIDTH + with] = many;
                }
            }
        }

        private void pairLines() {
            Arrays.fill(mates, NONE);
            int at = 0;
            int with = 0;
            for (int step = 0; step < 2 * MOST_LINES && at < firstSize && with < secondSize; step++) {
                if (first[at] == second[with]) {
                    mates[at] = with;
                    at++;
                    with++;
                } else if (pairs[(at + 1) * WIDTH + with] == pairs[at * WIDTH + with]) {
                    at++;
                } else {
                    with++;
                }
            }
        }

        private void gatherHunks() {
            count = 0;
            int at = 0;
            int with = 0;
            for (int end = 0; end <= firstSize; end++) {
                int mate = end == firstSize ? secondSize : mates[end];
                if (mate != NONE) {
                    if (end > at || mate > with) {
                        dropAt[count] = at;
                        drops[count] = end - at;
                        addAt[count] = with;
                        adds[count] = mate - with;
                        count++;
                    }
                    at = end + 1;
                    with = mate + 1;
                }
            }
        }

        boolean isAlike(int hunk, Comparison other, int otherHunk) {
            boolean isAlike = drops[hunk] == other.drops[otherHunk] && adds[hunk] == other.adds[otherHunk];
            for (int at = 0; at < drops[hunk] && isAlike; at++) {
                isAlike = first[dropAt[hunk] + at] == other.first[other.dropAt[otherHunk] + at];
            }
            for (int at = 0; at < adds[hunk] && isAlike; at++) {
                isAlike = second[addAt[hunk] + at] == other.second[other.addAt[otherHunk] + at];
            }
            return isAlike;
        }

        boolean isAlikeOneByOne(Comparison other) {
            boolean isAlike = count == other.count;
            for (int hunk = 0; hunk < count && isAlike; hunk++) {
                isAlike = isAlike(hunk, other, hunk);
            }
            return isAlike;
        }

        boolean hasAlike(Comparison other, int otherHunk) {
            for (int hunk = 0; hunk < count; hunk++) {
                if (isAlike(hunk, other, otherHunk)) {
                    return true;
                }
            }
            return false;
        }

        /** Both have the same first file. */
        boolean isInConflict(Comparison other) {
            for (int hunk = 0; hunk < count; hunk++) {
                for (int with = 0; with < other.count; with++) {
                    boolean isTouching = dropAt[hunk] <= other.dropAt[with] + other.drops[with]
                            && other.dropAt[with] <= dropAt[hunk] + drops[hunk];
                    boolean isSame = dropAt[hunk] == other.dropAt[with] && isAlike(hunk, other, with);
                    if (isTouching && !isSame) {
                        return true;
                    }
                }
            }
            return false;
        }

        int hunkFrom(int place) {
            for (int hunk = 0; hunk < count; hunk++) {
                if (dropAt[hunk] == place) {
                    return hunk;
                }
            }
            return NONE;
        }
    }

    /** All that is done by comparing files of commits: merging, kinds of patch sets, differences, following. */
    private static final class Comparer {
        final Store store;
        final Comparison one = new Comparison();
        final Comparison two = new Comparison();
        /** The hunks of the latest difference, as hunks of the first comparison. */
        final int[] left = new int[Comparison.WIDTH];

        Comparer(Store itsStore) {
            store = itsStore;
        }

        /** Makes the merge of two rows that come from the old one; false if there is a conflict. */
        boolean mergeRows(int old, int row, int other) {
            for (int file = 0; file < FILES; file++) {
                one.compare(store, old, row, file, false);
                two.compare(store, old, other, file, false);
                if (one.isInConflict(two) || !makeMergedFile(file)) {
                    return false;
                }
            }
            return true;
        }

        /** Hunks that begin at the same place are the same by now, so that one of them is enough. */
        private boolean makeMergedFile(int file) {
            int kept = 0;
            store.startFile(file);
            for (int place = 0; place <= one.firstSize; place++) {
                Comparison with = one.hunkFrom(place) != NONE ? one : two;
                int hunk = with.hunkFrom(place);
                if (hunk != NONE) {
                    kept = place + with.drops[hunk];
                    for (int at = 0; at < with.adds[hunk]; at++) {
                        if (!store.addLine(file, with.second[with.addAt[hunk] + at])) {
                            return false;
                        }
                    }
                }
                if (place < one.firstSize && place >= kept && !store.addLine(file, one.first[place])) {
                    return false;
                }
            }
            return true;
        }

        int kindBetween(int earlier, int later) {
            boolean isOnSameBase = store.baseOf(earlier) == store.baseOf(later);
            for (int file = 0; file < FILES; file++) {
                boolean isKept = isOnSameBase ? store.isSameFile(earlier, later, file)
                        : isChangedAlike(earlier, later, file);
                if (!isKept) {
                    return REWORK;
                }
            }
            return isOnSameBase ? SAME : TRIVIAL;
        }

        private boolean isChangedAlike(int earlier, int later, int file) {
            one.compare(store, store.baseOf(earlier), earlier, file, false);
            two.compare(store, store.baseOf(later), later, file, false);
            return one.isAlikeOneByOne(two);
        }

        /** Finds the hunks between two patch sets that no rebase brought, and answers how many they are. */
        int findLeft(int row, int other, int file, boolean isByWords) {
            one.compare(store, row, other, file, isByWords);
            // with the same base there are no hunks between both, so that nothing is left out
            two.compare(store, store.baseOf(row), store.baseOf(other), file, isByWords);
            int many = 0;
            for (int hunk = 0; hunk < one.count; hunk++) {
                if (!two.hasAlike(one, hunk)) {
                    left[many] = hunk;
                    many++;
                }
            }
            return many;
        }

        int tellLeft(int index) {
            int hunk = Store.read(left, index);
            if (hunk < 0 || hunk >= one.count) {
                return NONE;
            }
            return 1000000 * one.dropAt[hunk] + 10000 * one.drops[hunk] + 100 * one.addAt[hunk] + one.adds[hunk];
        }

        /** The lines of the later row that are paired with those of the set in the earlier one. */
        int follow(int rows, int earlier, int later, int file) {
            one.compare(store, earlier, later, file, false);
            int followed = 0;
            for (int place = 0; place < one.firstSize; place++) {
                if (isIn(rows, place) && one.mates[place] != NONE) {
                    followed |= 1 << one.mates[place];
                }
            }
            return followed;
        }
    }

    /** A change, with the commits of its patch sets; sets of people have the bit p for the person p. */
    private static final class Change {
        final int number;
        final int owner;
        final int repository;
        final int[] commits = new int[MOST_COMMITS];
        int setCount;
        int state = OPEN;
        boolean isInWork;
        boolean isPrivate;
        int topic = NONE;
        int reviewerSet;
        int turns;
        int lastAct;
        int landedWith = NONE;

        Change(int itsNumber, int itsOwner, int itsRepository) {
            number = itsNumber;
            owner = itsOwner;
            repository = itsRepository;
        }

        void addCommit(int commit) {
            if (setCount < commits.length) {
                commits[setCount] = commit;
                setCount++;
            }
        }

        int commitAt(int set) {
            return set < setCount ? Store.read(commits, set) : NONE;
        }

        /** Who votes or publishes is a reviewer from then on, but for the owner. */
        void takePart(int person) {
            if (person != owner) {
                reviewerSet |= 1 << person;
            }
        }

        void giveTurns(int people) {
            if (state == OPEN && !isInWork) {
                turns |= people;
            }
        }
    }

    /** Lines of a file of a patch set. */
    private static final class Place {
        final int change;
        final int set;
        final int file;
        final int from;
        final int many;

        Place(int itsChange, int itsSet, int itsFile, int itsFrom, int itsMany) {
            change = itsChange;
            set = itsSet;
            file = itsFile;
            from = itsFrom;
            many = itsMany;
        }

        /** Both are of the same patch set. */
        boolean touches(Place other) {
            return file == other.file && from <= other.from + other.many && other.from <= from + many;
        }
    }

    private static final class Comment {
        final int author;
        final int thread;
        final boolean isUnresolved;
        final Place place;
        boolean isPublished;

        Comment(int itsAuthor, int itsThread, boolean saysUnresolved, Place itsPlace) {
            author = itsAuthor;
            thread = itsThread;
            isUnresolved = saysUnresolved;
            place = itsPlace;
        }
    }

    private static final class Finding {
        final int commit;
        final int line;
        final Place place;

        Finding(int itsCommit, int itsLine, Place itsPlace) {
            commit = itsCommit;
            line = itsLine;
            place = itsPlace;
        }
    }

    /** The lists of owners: for each repository those of its files, then of its directories, then of the root. */
    private static final class OwnerLists {
        static final int ROOT = FILES + DIRECTORIES;
        static final int LEVELS = ROOT + 1;

        final int[] lists = new int[REPOSITORIES * LEVELS];
        final boolean[] cuts = new boolean[REPOSITORIES * LEVELS];
        final boolean[] includes = new boolean[REPOSITORIES * DIRECTORIES];
        int lastResort;

        int setList(int index, int people, boolean isCut) {
            int earlier = Store.read(lists, index);
            if (index >= 0 && index < lists.length) {
                lists[index] = people;
                cuts[index] = isCut;
            }
            return earlier;
        }

        boolean setIncluding(int index, boolean isIncluding) {
            boolean wasIncluding = false;
            if (index >= 0 && index < includes.length) {
                wasIncluding = includes[index];
                includes[index] = isIncluding;
            }
            return wasIncluding;
        }

        int ownersOf(int repository, int file) {
            int start = repository * LEVELS;
            int directory = file / (FILES / DIRECTORIES);
            int level = start + FILES + directory;
            int people = lists[start + file];
            if (!cuts[start + file]) {
                people |= lists[level];
                if (includes[repository * DIRECTORIES + directory]) {
                    people |= lists[start + FILES + 1 - directory];
                }
                if (!cuts[level]) {
                    people |= lists[start + ROOT];
                }
            }
            return people == 0 ? 1 << lastResort : people;
        }
    }

    /** The votes on each commit that is a patch set, and which values are copied to later ones. */
    private static final class Votes {
        static final int VALUES = 5;
        static final int NO_VOTE = -9;

        final Store store;
        final int[] cast = new int[MOST_COMMITS * LABELS * PEOPLE];
        /** For each label the sets for REWORK, TRIVIAL and SAME: the bit v + 2 for the value v. */
        final int[] copied = {1, 17, 31, 2, 10, 14};

        Votes(Store itsStore) {
            store = itsStore;
            Arrays.fill(cast, NO_VOTE);
        }

        private static int indexOf(int commit, int label, int person) {
            return (commit * LABELS + label) * PEOPLE + person;
        }

        void castVote(int commit, int label, int person, int value) {
            Store.write(cast, indexOf(commit, label, person), value);
        }

        int replaceCopied(int index, int values) {
            int earlier = Store.read(copied, index);
            Store.write(copied, index, values);
            return earlier;
        }

        int worthOn(Change change, int set, int label, int person) {
            int worth = 0;
            for (int at = 0; at <= set && at < MOST_COMMITS; at++) {
                int commit = change.commitAt(at);
                int vote = Store.read(cast, indexOf(commit, label, person));
                if (vote != NO_VOTE) {
                    worth = vote;
                } else if (!isIn(Store.read(copied, label * KINDS + store.kindAt(commit)), worth + 2)) {
                    worth = 0;
                }
            }
            return worth;
        }

        /** The people whose votes for the change are worth this. */
        int peopleWith(Change change, int label, int value) {
            int people = 0;
            for (int person = 0; person < PEOPLE; person++) {
                if (worthOn(change, change.setCount - 1, label, person) == value) {
                    people |= 1 << person;
                }
            }
            return people;
        }
    }

    /** The rules by which statements follow from facts. */
    private static final class Rules {
        final int[] statementOf = new int[MOST_RULES];
        final int[] musts = new int[MOST_RULES];
        final int[] mustNots = new int[MOST_RULES];
        final boolean[] isDropped = new boolean[MOST_RULES];
        /** A statement stands above all that must not hold for it, and not below what must hold. */
        final int[] levels = new int[STATEMENTS];
        int highest;
        int count;

        Rules() {
            statementOf[0] = READY;
            musts[0] = 1 | 1 << 1 | 1 << 2;
            mustNots[0] = 1 << 4 | 1 << 5;
            count = 1;
        }

        /** Answers the number of the rule; NONE if it is refused. */
        int tryAdd(int statement, int must, int mustNot) {
            if (count >= MOST_RULES) {
                return NONE;
            }
            int rule = count;
            statementOf[rule] = statement;
            musts[rule] = must;
            mustNots[rule] = mustNot;
            isDropped[rule] = false;
            count++;
            if (!findLevels()) {
                count--;
                findLevels();
                return NONE;
            }
            return rule;
        }

        /** Answers the statement of the rule; NONE if there is no such rule any more. */
        int tryDrop(int rule) {
            if (rule < 0 || rule >= count || isDropped[rule]) {
                return NONE;
            }
            isDropped[rule] = true;
            findLevels();
            return statementOf[rule];
        }

        /** False if there are no such levels: then a statement hangs on itself by way of one that must not hold. */
        private boolean findLevels() {
            Arrays.fill(levels, 0);
            boolean isRaised = true;
            // a chain without a circle has each statement once, so that levels still rising later rise for ever
            for (int round = 0; round <= STATEMENTS && isRaised; round++) {
                isRaised = false;
                for (int rule = 0; rule < count; rule++) {
                    int level = isDropped[rule] ? 0 : levelNeeded(rule);
                    if (levels[statementOf[rule]] < level) {
                        levels[statementOf[rule]] = level;
                        isRaised = true;
                    }
                }
            }
            highest = 0;
            for (int statement = FACTS; statement < STATEMENTS; statement++) {
                highest = Math.max(highest, levels[statement]);
            }
            return !isRaised;
        }

        private int levelNeeded(int rule) {
            int level = 0;
            for (int statement = FACTS; statement < STATEMENTS; statement++) {
                if (isIn(musts[rule], statement)) {
                    level = Math.max(level, levels[statement]);
                }
                if (isIn(mustNots[rule], statement)) {
                    level = Math.max(level, levels[statement] + 1);
                }
            }
            return level;
        }

        /** All statements that hold with these facts. */
        int follow(int facts) {
            int holding = facts;
            for (int level = 0; level <= highest && level < STATEMENTS; level++) {
                boolean isMore = true;
                for (int round = 0; round < STATEMENTS && isMore; round++) {
                    int earlier = holding;
                    holding = followOnce(holding, level);
                    isMore = holding != earlier;
                }
            }
            return holding;
        }

        private int followOnce(int holding, int level) {
            int more = holding;
            for (int rule = 0; rule < count; rule++) {
                boolean isDue = !isDropped[rule] && levels[statementOf[rule]] == level;
                if (isDue && (musts[rule] & ~more) == 0 && (mustNots[rule] & more) == 0) {
                    more |= 1 << statementOf[rule];
                }
            }
            return more;
        }

        /** The smallest set of facts that would have to be the other way; NONE if there is none. */
        int lackingFacts(int facts) {
            int best = NONE;
            for (int flips = 0; flips < 1 << FACTS; flips++) {
                boolean isSmaller = best == NONE || Integer.bitCount(flips) < Integer.bitCount(best);
                if (isSmaller && isIn(follow(facts ^ flips), READY)) {
                    best = flips;
                }
            }
            return best;
        }
    }

    /** Parents and groups of changes, and how a group comes to the trunks. */
    private static final class Landing {
        final Store store;
        final Comparer comparer;
        final ArrayList<Change> changes;
        final int[] ways = {PICK, PICK};
        /** With which commit each change of the group would land. */
        final int[] commits = new int[MOST_CHANGES];
        int squashed;

        Landing(Store itsStore, Comparer itsComparer, ArrayList<Change> itsChanges) {
            store = itsStore;
            comparer = itsComparer;
            changes = itsChanges;
        }

        int replaceWay(int repository, int way) {
            int earlier = Store.read(ways, repository);
            Store.write(ways, repository, way);
            return earlier;
        }

        int groupOf(int change) {
            int group = 1 << change;
            boolean isMore = true;
            for (int round = 0; round < MOST_CHANGES && isMore; round++) {
                int earlier = group;
                for (int number = 0; number < changes.size(); number++) {
                    if (isIn(group, number)) {
                        group |= drawnBy(changes.get(number));
                    }
                }
                isMore = group != earlier;
            }
            return group;
        }

        /** The open parent of a change, and the open changes of its topic. */
        private int drawnBy(Change change) {
            int parent = store.parentNumber(change.number);
            int drawn = 0;
            for (int number = 0; number < changes.size(); number++) {
                Change other = changes.get(number);
                boolean isOfTopic = change.topic != NONE && other.topic == change.topic;
                if (other.state == OPEN && (isOfTopic || number == parent)) {
                    drawn |= 1 << number;
                }
            }
            return drawn;
        }

        /** Brings all changes of the group to the trunks; if it can't be done, all is as before. */
        boolean tryAll(int group) {
            int count = store.count;
            int firstTip = store.tips[0];
            int secondTip = store.tips[1];
            Arrays.fill(commits, NONE);
            squashed = findSquashed(group);
            int waiting = group;
            for (int step = 0; step < MOST_CHANGES && waiting != 0; step++) {
                int next = nextOf(waiting);
                if (next == NONE || !tryOne(next)) {
                    store.count = count;
                    store.tips[0] = firstTip;
                    store.tips[1] = secondTip;
                    return false;
                }
                waiting &= ~(1 << next);
            }
            nameCommits(group);
            return true;
        }

        /** The lowest one whose parent does not wait. */
        private int nextOf(int waiting) {
            for (int number = 0; number < changes.size(); number++) {
                int parent = store.parentNumber(number);
                if (isIn(waiting, number) && (parent == NONE || !isIn(waiting, parent))) {
                    return number;
                }
            }
            return NONE;
        }

        /** The changes that land without a commit of their own, as a child of theirs lands with them. */
        private int findSquashed(int group) {
            int found = 0;
            for (int number = 0; number < changes.size(); number++) {
                int parent = store.parentNumber(number);
                boolean isWithParent = isIn(group, number) && parent != NONE && isIn(group, parent);
                if (isWithParent && Store.read(ways, changes.get(number).repository) == SQUASH) {
                    found |= 1 << parent;
                }
            }
            return found;
        }

        private boolean tryOne(int change) {
            int current = store.currentOf(change);
            int repository = store.repositoryOf(current);
            int tip = store.tipOf(repository);
            if (Store.read(ways, repository) == FORWARD) {
                Store.write(commits, change, current);
                Store.write(store.tips, repository, current);
                return store.baseOf(current) == tip;
            }
            if (isIn(squashed, change)) {
                return true;
            }
            if (store.isFull() || !comparer.mergeRows(mergeBaseOf(change), current, tip)) {
                return false;
            }
            int commit = store.addCommit(Store.MADE, repository, tip);
            Store.write(store.tips, repository, commit);
            standFor(change, commit);
            return true;
        }

        private int squashedParentOf(int change) {
            int parent = store.parentNumber(change);
            return parent != NONE && isIn(squashed, parent) ? parent : NONE;
        }

        private int mergeBaseOf(int change) {
            int top = change;
            int parent = squashedParentOf(top);
            for (int step = 0; step < MOST_CHANGES && parent != NONE; step++) {
                top = parent;
                parent = squashedParentOf(top);
            }
            return store.baseOf(store.currentOf(top));
        }

        /** The first commit that stands for squashed parents is the one with which they land. */
        private void standFor(int change, int commit) {
            int at = change;
            for (int step = 0; step < MOST_CHANGES && at != NONE; step++) {
                if (Store.read(commits, at) == NONE) {
                    Store.write(commits, at, commit);
                }
                at = squashedParentOf(at);
            }
        }

        private void nameCommits(int group) {
            for (int number = 0; number < changes.size(); number++) {
                if (isIn(group, number)) {
                    int commit = Store.read(commits, number);
                    changes.get(number).landedWith = commit;
                    if (!isIn(squashed, number)) {
                        Store.write(store.names, commit, number);
                    }
                }
            }
        }
    }
}
