import java.util.ArrayList;
import java.util.Comparator;
import java.util.HashMap;
import java.util.HashSet;
import java.util.List;
import java.util.Map;
import java.util.Set;
import java.util.TreeSet;
import java.util.stream.IntStream;

/**
 * The same house once more, told as the document tells it and without a thought for speed: what can be found anew
 * from what has happened is not kept. The random runs compare the program with it.
 */
final class Model {
    record Commit(int repository, int before, List<List<Integer>> files) {
    }

    record Hunk(int from, List<Integer> dropped, int with, List<Integer> added) {
        boolean isAlike(Hunk other) {
            return dropped.equals(other.dropped) && added.equals(other.added);
        }

        boolean touches(Hunk other) {
            return from <= other.from + other.dropped.size() && other.from <= from + dropped.size();
        }
    }

    record Vote(int person, int commit, int label, int value) {
    }

    record Finding(int commit, int file, int from, int many, int line) {
        Hunk asHunk(List<Integer> old) {
            return new Hunk(from, old.subList(from, from + many), 0, line < 0 ? List.of() : List.of(line));
        }
    }

    record Rule(int statement, Set<Integer> must, Set<Integer> mustNot) {
    }

    static final class Change {
        int number;
        int owner;
        int repository;
        int state;
        int topic = -1;
        boolean inWork;
        boolean isPrivate;
        final List<Integer> sets = new ArrayList<>();
        final Set<Integer> added = new HashSet<>();
        final Set<Integer> turn = new HashSet<>();
        int lastAct;
        int landed = -1;

        int current() {
            return sets.get(sets.size() - 1);
        }
    }

    static final class Comment {
        int author;
        int change;
        int set;
        int file;
        int from;
        int many;
        int answers = -1;
        boolean unresolved;
        boolean published;
    }

    private List<Commit> commits = new ArrayList<>();
    private List<List<Integer>> trunks = new ArrayList<>();
    private Map<Integer, Integer> names = new HashMap<>();
    private final Map<Integer, Integer> uploaders = new HashMap<>();
    private int deskBase = 0;
    private List<List<Integer>> desk = emptyFiles();
    private final List<Change> changes = new ArrayList<>();
    private final List<Comment> comments = new ArrayList<>();
    private final List<Finding> findings = new ArrayList<>();
    private final List<Vote> votes = new ArrayList<>();
    private final List<Rule> rules = new ArrayList<>();
    private final int[][] people = new int[2][7];
    private final boolean[][] cuts = new boolean[2][7];
    private final boolean[][] includes = new boolean[2][2];
    private int lastResort = 0;
    private final int[][] copied = {{1, 17, 31}, {2, 10, 14}};
    private final int[] ways = {1, 1};
    private final List<Set<Integer>> watchers = List.of(new HashSet<>(), new HashSet<>());
    private final int[] mails = new int[6];
    private int day = 0;

    Model() {
        commits.add(new Commit(0, -1, emptyFiles()));
        commits.add(new Commit(1, -1, emptyFiles()));
        trunks.add(new ArrayList<>(List.of(0)));
        trunks.add(new ArrayList<>(List.of(1)));
        rules.add(new Rule(15, bits(7), bits(48)));
    }

    // ---- helpers

    private static List<List<Integer>> emptyFiles() {
        return copy(List.of(List.of(), List.of(), List.of(), List.of()));
    }

    private static List<List<Integer>> copy(List<List<Integer>> files) {
        List<List<Integer>> result = new ArrayList<>();
        files.forEach(file -> result.add(new ArrayList<>(file)));
        return result;
    }

    private static Set<Integer> bits(long set) {
        Set<Integer> result = new TreeSet<>();
        for (int bit = 0; bit < 63; bit++) {
            if ((set >> bit & 1) == 1) {
                result.add(bit);
            }
        }
        return result;
    }

    private static int mask(Iterable<Integer> set) {
        int result = 0;
        for (int bit : set) {
            result += 1 << bit;
        }
        return result;
    }

    private static void index(boolean isThere) {
        if (!isThere) {
            throw new IndexOutOfBoundsException();
        }
    }

    private static void argument(boolean isRight) {
        if (!isRight) {
            throw new IllegalArgumentException();
        }
    }

    private static void state(boolean isRight) {
        if (!isRight) {
            throw new IllegalStateException();
        }
    }

    private static boolean within(int number, int end) {
        return number >= 0 && number < end;
    }

    private Change change(int change) {
        index(within(change, changes.size()));
        return changes.get(change);
    }

    private int set(int change, int set) {
        index(within(set, change(change).sets.size()));
        return change(change).sets.get(set);
    }

    private boolean sees(int person, Change change) {
        return !change.isPrivate || change.owner == person || reviewersOf(change).contains(person);
    }

    private List<Integer> file(int commit, int file) {
        return commits.get(commit).files.get(file);
    }

    private int tipOf(int repository) {
        List<Integer> trunk = trunks.get(repository);
        return trunk.get(trunk.size() - 1);
    }

    int commentCount() {
        return comments.size();
    }

    int changeOfComment(int comment) {
        return comments.get(comment).change;
    }

    /** How many findings the current patch set of a change has. */
    int findingCount(int change) {
        boolean isThere = within(change, changes.size());
        return isThere ? (int) findings.stream().filter(it -> it.commit == changes.get(change).current()).count() : 0;
    }

    // ---- comparing and merging

    /** Each pair as a place of the first one and a place of the second one. */
    private static List<int[]> pairs(List<Integer> first, List<Integer> second) {
        List<int[]> result = new ArrayList<>();
        int i = 0;
        int j = 0;
        while (i < first.size() && j < second.size()) {
            if (first.get(i).equals(second.get(j))) {
                result.add(new int[] {i++, j++});
            } else if (most(first, i + 1, second, j) == most(first, i, second, j)) {
                i++;
            } else {
                j++;
            }
        }
        return result;
    }

    private static int most(List<Integer> first, int i, List<Integer> second, int j) {
        int[][] table = new int[first.size() + 2][second.size() + 2];
        for (int a = first.size() - 1; a >= i; a--) {
            for (int b = second.size() - 1; b >= j; b--) {
                int same = first.get(a).equals(second.get(b)) ? 1 + table[a + 1][b + 1] : 0;
                table[a][b] = Math.max(same, Math.max(table[a + 1][b], table[a][b + 1]));
            }
        }
        return table[i][j];
    }

    private static List<Hunk> compare(List<Integer> first, List<Integer> second) {
        List<Hunk> result = new ArrayList<>();
        List<int[]> pairs = new ArrayList<>(pairs(first, second));
        pairs.add(new int[] {first.size(), second.size()});
        int[] last = {-1, -1};
        for (int[] pair : pairs) {
            List<Integer> dropped = first.subList(last[0] + 1, pair[0]);
            List<Integer> added = second.subList(last[1] + 1, pair[1]);
            if (!dropped.isEmpty() || !added.isEmpty()) {
                result.add(new Hunk(last[0] + 1, List.copyOf(dropped), last[1] + 1, List.copyOf(added)));
            }
            last = pair;
        }
        return result;
    }

    /** None of the hunks touch one another. */
    private static List<Integer> done(List<Integer> old, List<Hunk> hunks) {
        List<Integer> result = new ArrayList<>(old);
        List<Hunk> sorted = new ArrayList<>(hunks);
        sorted.sort(Comparator.comparingInt(Hunk::from).reversed());
        for (Hunk hunk : sorted) {
            result.subList(hunk.from, hunk.from + hunk.dropped.size()).clear();
            result.addAll(hunk.from, hunk.added);
        }
        return result;
    }

    /** Null if there is a conflict. */
    private List<List<Integer>> merge(int old, int one, int two) {
        List<List<Integer>> result = new ArrayList<>();
        for (int file = 0; file < 4; file++) {
            List<Hunk> hunks = new ArrayList<>(compare(file(old, file), file(one, file)));
            for (Hunk hunk : compare(file(old, file), file(two, file))) {
                boolean isNew = true;
                for (Hunk other : compare(file(old, file), file(one, file))) {
                    boolean isSame = hunk.from == other.from && hunk.isAlike(other);
                    if (hunk.touches(other) && !isSame) {
                        return null;
                    }
                    isNew &= !isSame;
                }
                if (isNew) {
                    hunks.add(hunk);
                }
            }
            List<Integer> merged = done(file(old, file), hunks);
            if (merged.size() > 10) {
                return null;
            }
            result.add(merged);
        }
        return result;
    }

    // ---- changes

    private Change withSet(int commit) {
        return changes.stream().filter(change -> change.sets.contains(commit)).findAny().orElse(null);
    }

    private int base(Change change) {
        return commits.get(change.current()).before;
    }

    private Change parent(Change change) {
        return withSet(base(change));
    }

    private boolean isOutdated(Change change) {
        return parent(change) != null && parent(change).current() != base(change);
    }

    private int kind(Change change, int set) {
        if (set == 0) {
            return 0;
        }
        Commit now = commits.get(change.sets.get(set));
        Commit earlier = commits.get(change.sets.get(set - 1));
        if (now.before == earlier.before) {
            return now.files.equals(earlier.files) ? 2 : 0;
        }
        for (int file = 0; file < 4; file++) {
            List<Hunk> one = compare(file(now.before, file), now.files.get(file));
            List<Hunk> two = compare(file(earlier.before, file), earlier.files.get(file));
            boolean isAlike = one.size() == two.size()
                    && IntStream.range(0, one.size()).allMatch(h -> one.get(h).isAlike(two.get(h)));
            if (!isAlike) {
                return 0;
            }
        }
        return 1;
    }

    private Set<Integer> reviewersOf(Change change) {
        Set<Integer> result = new TreeSet<>(change.added);
        votes.stream().filter(vote -> change.sets.contains(vote.commit)).forEach(vote -> result.add(vote.person));
        comments.stream().filter(c -> c.published && c.change == change.number).forEach(c -> result.add(c.author));
        result.remove(change.owner);
        return result;
    }

    private void giveTurn(Change change, Set<Integer> to) {
        if (change.state == 0 && !change.inWork) {
            change.turn.addAll(to);
        }
    }

    private void passTurn(int person, Change change, boolean isVote) {
        change.turn.remove(person);
        if (person != change.owner) {
            giveTurn(change, Set.of(change.owner));
        } else if (!isVote) {
            Set<Integer> to = reviewersOf(change);
            to.removeIf(reviewer -> worthNow(reviewer, change, 0) == 2);
            giveTurn(change, to);
        }
    }

    private void act(int person, Change change) {
        change.lastAct = day;
        Set<Integer> to = reviewersOf(change);
        to.add(change.owner);
        if (!change.isPrivate && !change.inWork) {
            to.addAll(watchers.get(change.repository));
        }
        to.remove(person);
        to.forEach(receiver -> mails[receiver]++);
    }

    private int upload(int person, Change change, List<List<Integer>> files, int base) {
        commits.add(new Commit(change.repository, base, copy(files)));
        change.sets.add(commits.size() - 1);
        uploaders.put(commits.size() - 1, person);
        passTurn(person, change, false);
        act(person, change);
        return change.sets.size() - 1;
    }

    private void end(Change change, int state, int person) {
        change.state = state;
        change.turn.clear();
        act(person, change);
    }

    // ---- the face: commits and the desk

    public int take(int commit) {
        index(within(commit, commits.size()));
        deskBase = commit;
        desk = copy(commits.get(commit).files);
        return commits.get(commit).repository;
    }

    public int takeSet(int change, int set) {
        Commit commit = commits.get(set(change, set));
        deskBase = commit.before;
        desk = copy(commit.files);
        return deskBase;
    }

    public int put(int file, int place, int line) {
        index(within(file, 4) && within(place, desk.get(file).size() + 1));
        argument(within(line, 400));
        state(desk.get(file).size() < 10);
        desk.get(file).add(place, line);
        return desk.get(file).size();
    }

    public int cut(int file, int place) {
        index(within(file, 4) && within(place, desk.get(file).size()));
        return desk.get(file).remove(place);
    }

    public int commits() {
        return commits.size();
    }

    public int line(int commit, int file, int place) {
        index(within(commit, commits.size()) || commit == -1);
        index(within(file, 4) && place >= 0);
        List<Integer> lines = commit == -1 ? desk.get(file) : file(commit, file);
        return place < lines.size() ? lines.get(place) : -1;
    }

    public int before(int commit) {
        index(within(commit, commits.size()) || commit == -1);
        return commit == -1 ? deskBase : commits.get(commit).before;
    }

    public int tip(int repository) {
        index(within(repository, 2));
        return tipOf(repository);
    }

    public int namedAfter(int commit) {
        index(within(commit, commits.size()));
        return names.getOrDefault(commit, -1);
    }

    // ---- the face: changes

    public int open(int person) {
        index(within(person, 6));
        state(changes.size() < 20 && commits.size() < 80);
        Change change = new Change();
        change.number = changes.size();
        change.owner = person;
        change.repository = commits.get(deskBase).repository;
        changes.add(change);
        upload(person, change, desk, deskBase);
        return change.number;
    }

    public int upload(int person, int change) {
        index(within(person, 6));
        Change its = change(change);
        state(its.state == 0 && sees(person, its) && commits.size() < 80);
        state(commits.get(deskBase).repository == its.repository);
        for (Change above = withSet(deskBase); above != null; above = parent(above)) {
            state(above != its);
        }
        return upload(person, its, desk, deskBase);
    }

    public int rebase(int person, int change) {
        index(within(person, 6));
        Change its = change(change);
        state(its.state == 0 && sees(person, its) && commits.size() < 80);
        Change parent = parent(its);
        int to = tipOf(its.repository);
        if (parent != null && parent.state == 0) {
            to = parent.current();
        } else if (parent != null && parent.state == 1) {
            to = parent.landed;
        }
        state(to != base(its));
        List<List<Integer>> merged = merge(base(its), its.current(), to);
        state(merged != null);
        return upload(person, its, merged, to);
    }

    public int abandon(int person, int change) {
        index(within(person, 6));
        Change its = change(change);
        state(its.state == 0 && sees(person, its));
        end(its, 2, person);
        return (int) changes.stream().filter(child -> child.state == 0 && parent(child) == its).count();
    }

    public int restore(int change) {
        Change its = change(change);
        state(its.state == 2);
        its.state = 0;
        its.lastAct = day;
        return its.sets.size() - 1;
    }

    public int setFlags(int change, boolean isInWork, boolean isPrivate) {
        Change its = change(change);
        state(its.state == 0);
        int result = (its.inWork ? 1 : 0) + (its.isPrivate ? 2 : 0);
        boolean wasInWork = its.inWork;
        its.inWork = isInWork;
        its.isPrivate = isPrivate;
        if (!wasInWork && isInWork) {
            its.turn.clear();
        }
        if (wasInWork && !isInWork) {
            giveTurn(its, reviewersOf(its));
        }
        return result;
    }

    public int setTopic(int change, int topic) {
        Change its = change(change);
        argument(within(topic, 4) || topic == -1);
        int result = its.topic;
        its.topic = topic;
        return result;
    }

    public int changes() {
        return changes.size();
    }

    public int stateOf(int change) {
        return change(change).state;
    }

    public int sets(int change) {
        return change(change).sets.size();
    }

    public int commitOf(int change, int set) {
        return set(change, set);
    }

    public int kindOf(int change, int set) {
        set(change, set);
        return kind(change(change), set);
    }

    public int parentOf(int change) {
        Change its = change(change);
        return parent(its) == null ? -1 : 10 * parent(its).number + (isOutdated(its) ? 1 : 0);
    }

    // ---- the face: differences

    private List<Hunk> difference(int change, int set, int other, int file, boolean isByWords) {
        int one = set(change, set);
        int two = set(change, other);
        index(within(file, 4));
        int divisor = isByWords ? 100 : 1000;
        List<Hunk> result = new ArrayList<>(compare(lines(one, file, divisor), lines(two, file, divisor)));
        int oneBase = commits.get(one).before;
        int twoBase = commits.get(two).before;
        if (oneBase != twoBase) {
            List<Hunk> brought = compare(lines(oneBase, file, divisor), lines(twoBase, file, divisor));
            result.removeIf(hunk -> brought.stream().anyMatch(hunk::isAlike));
        }
        return result;
    }

    private List<Integer> lines(int commit, int file, int divisor) {
        return file(commit, file).stream().map(line -> line % divisor).toList();
    }

    public int hunks(int change, int set, int other, int file, boolean isByWords) {
        return difference(change, set, other, file, isByWords).size();
    }

    public int hunkAt(int change, int set, int other, int file, boolean isByWords, int hunk) {
        List<Hunk> all = difference(change, set, other, file, isByWords);
        index(hunk >= 0);
        if (hunk >= all.size()) {
            return -1;
        }
        Hunk it = all.get(hunk);
        return 1000000 * it.from + 10000 * it.dropped.size() + 100 * it.with + it.added.size();
    }

    // ---- the face: comments

    private void needLines(int commit, int file, int from, int many) {
        long end = (long) from + many;
        argument(many >= 0 && from >= 0 && end <= file(commit, file).size());
    }

    public int comment(int person, int change, int set, int file, int from, int many, boolean isUnresolved) {
        index(within(person, 6));
        int commit = set(change, set);
        index(within(file, 4));
        argument(many >= 1);
        needLines(commit, file, from, many);
        state(sees(person, change(change)) && comments.size() < 60);
        Comment comment = new Comment();
        comment.author = person;
        comment.change = change;
        comment.set = set;
        comment.file = file;
        comment.from = from;
        comment.many = many;
        comment.unresolved = isUnresolved;
        comments.add(comment);
        return comments.size() - 1;
    }

    public int answer(int person, int comment, boolean isUnresolved) {
        index(within(person, 6) && within(comment, comments.size()));
        Comment to = comments.get(comment);
        state(to.published && to.answers == -1 && sees(person, change(to.change)));
        int result = comment(person, to.change, to.set, to.file, to.from, to.many, isUnresolved);
        comments.get(result).answers = comment;
        return result;
    }

    public int publish(int person, int change) {
        index(within(person, 6));
        Change its = change(change);
        List<Comment> drafts = comments.stream()
                .filter(c -> c.author == person && c.change == change && !c.published).toList();
        state(sees(person, its) && !drafts.isEmpty());
        drafts.forEach(draft -> draft.published = true);
        passTurn(person, its, false);
        act(person, its);
        return drafts.size();
    }

    public int shown(int comment, int set) {
        index(within(comment, comments.size()));
        Comment its = comments.get(comment);
        set(its.change, set);
        if (set < its.set) {
            return 0;
        }
        return mask(shownOn(its, set));
    }

    private Set<Integer> shownOn(Comment comment, int set) {
        Set<Integer> result = new TreeSet<>();
        if (set == comment.set) {
            IntStream.range(comment.from, comment.from + comment.many).forEach(result::add);
            return result;
        }
        Set<Integer> earlier = shownOn(comment, set - 1);
        List<Integer> there = file(set(comment.change, set), comment.file);
        for (int[] pair : pairs(file(set(comment.change, set - 1), comment.file), there)) {
            if (earlier.contains(pair[0])) {
                result.add(pair[1]);
            }
        }
        if (result.isEmpty()) {
            List<Integer> made = file(set(comment.change, comment.set), comment.file)
                    .subList(comment.from, comment.from + comment.many);
            List<Integer> places = IntStream.rangeClosed(0, there.size() - comment.many)
                    .filter(at -> there.subList(at, at + comment.many).equals(made)).boxed().toList();
            if (places.size() == 1) {
                IntStream.range(0, comment.many).forEach(at -> result.add(places.get(0) + at));
            }
        }
        return result;
    }

    public int unresolved(int change) {
        change(change);
        int result = 0;
        for (int thread = 0; thread < comments.size(); thread++) {
            Comment says = null;
            for (int number = 0; number < comments.size(); number++) {
                Comment comment = comments.get(number);
                boolean isOfThread = number == thread && comment.answers == -1 || comment.answers == thread;
                if (isOfThread && comment.published && comment.change == change) {
                    says = comment;
                }
            }
            result += says != null && says.unresolved ? 1 : 0;
        }
        return result;
    }

    // ---- the face: findings

    public int find(int change, int set, int file, int from, int many, int line) {
        int commit = set(change, set);
        index(within(file, 4));
        needLines(commit, file, from, many);
        argument(within(line, 400) || line == -1);
        state(findings.size() < 40);
        findings.add(new Finding(commit, file, from, many, line));
        return findings.size() - 1;
    }

    public int takeFixes(int change, int fixes) {
        int commit = change(change).current();
        List<Finding> all = findings.stream().filter(finding -> finding.commit == commit).toList();
        argument(fixes >= 0 && bits(fixes).stream().allMatch(bit -> bit < all.size()));
        List<List<Integer>> files = new ArrayList<>();
        for (int file = 0; file < 4; file++) {
            List<Hunk> hunks = new ArrayList<>();
            for (int bit : bits(fixes)) {
                if (all.get(bit).file == file) {
                    Hunk hunk = all.get(bit).asHunk(file(commit, file));
                    state(hunks.stream().noneMatch(hunk::touches));
                    hunks.add(hunk);
                }
            }
            files.add(done(file(commit, file), hunks));
            state(files.get(file).size() <= 10);
        }
        deskBase = commits.get(commit).before;
        desk = files;
        return bits(fixes).size();
    }

    // ---- the face: owners

    public int setOwners(int repository, int level, int people, boolean isCut) {
        index(within(repository, 2) && within(level, 7));
        argument(within(people, 64));
        int result = this.people[repository][level];
        this.people[repository][level] = people;
        cuts[repository][level] = isCut;
        return result;
    }

    public boolean setInclude(int repository, int directory, boolean isIncluded) {
        index(within(repository, 2) && within(directory, 2));
        boolean result = includes[repository][directory];
        includes[repository][directory] = isIncluded;
        return result;
    }

    public int setLastResort(int person) {
        index(within(person, 6));
        int result = lastResort;
        lastResort = person;
        return result;
    }

    public int owners(int repository, int file) {
        index(within(repository, 2) && within(file, 4));
        int directory = file < 2 ? 0 : 1;
        Set<Integer> result = bits(people[repository][file]);
        if (!cuts[repository][file]) {
            result.addAll(bits(people[repository][4 + directory]));
            if (includes[repository][directory]) {
                result.addAll(bits(people[repository][5 - directory]));
            }
            if (!cuts[repository][4 + directory]) {
                result.addAll(bits(people[repository][6]));
            }
        }
        return result.isEmpty() ? 1 << lastResort : mask(result);
    }

    private List<Integer> changedFiles(Change change) {
        return IntStream.range(0, 4).filter(file -> !file(change.current(), file).equals(file(base(change), file)))
                .boxed().toList();
    }

    public int fewest(int change) {
        Change its = change(change);
        return IntStream.range(0, 64).boxed()
                .filter(set -> changedFiles(its).stream().allMatch(file -> (owners(its.repository, file) & set) != 0))
                .min(Comparator.comparingInt((Integer set) -> Integer.bitCount(set)).thenComparingInt(set -> set))
                .orElseThrow();
    }

    // ---- the face: votes and requirements

    public int vote(int person, int change, int set, int label, int value) {
        index(within(person, 6));
        int commit = set(change, set);
        argument(within(label, 2));
        argument(label == 0 ? within(value + 2, 5) : within(value + 1, 3));
        Change its = change(change);
        state(its.state == 0 && sees(person, its));
        votes.add(new Vote(person, commit, label, value));
        passTurn(person, its, true);
        act(person, its);
        return worthNow(person, its, label);
    }

    private int worthNow(int person, Change change, int label) {
        return worthOf(person, change, change.sets.size() - 1, label);
    }

    private int worthOf(int person, Change change, int set, int label) {
        int commit = change.sets.get(set);
        for (int at = votes.size() - 1; at >= 0; at--) {
            Vote vote = votes.get(at);
            if (vote.person == person && vote.commit == commit && vote.label == label) {
                return vote.value;
            }
        }
        if (set == 0) {
            return 0;
        }
        int earlier = worthOf(person, change, set - 1, label);
        return bits(copied[label][kind(change, set)]).contains(earlier + 2) ? earlier : 0;
    }

    public int worth(int person, int change, int set, int label) {
        index(within(person, 6));
        set(change, set);
        argument(within(label, 2));
        return worthOf(person, change(change), set, label);
    }

    public int setCopied(int label, int kind, int values) {
        argument(within(label, 2) && within(kind, 3) && within(values, 32));
        int result = copied[label][kind];
        copied[label][kind] = values;
        return result;
    }

    /** Whether a statement hangs on another one, perhaps by way of others. */
    private boolean[][] hanging(List<Rule> some) {
        boolean[][] result = new boolean[16][16];
        for (Rule rule : some) {
            if (rule != null) {
                rule.must.forEach(on -> result[rule.statement][on] = true);
                rule.mustNot.forEach(on -> result[rule.statement][on] = true);
            }
        }
        for (int way = 0; way < 16; way++) {
            for (int from = 0; from < 16; from++) {
                for (int on = 0; on < 16; on++) {
                    result[from][on] |= result[from][way] && result[way][on];
                }
            }
        }
        return result;
    }

    public int addRule(int statement, int must, int mustNot) {
        argument(within(statement - 8, 8) && within(must, 65536) && within(mustNot, 65536));
        List<Rule> more = new ArrayList<>(rules);
        more.add(new Rule(statement, bits(must), bits(mustNot)));
        boolean[][] hanging = hanging(more);
        for (Rule rule : more) {
            if (rule != null) {
                for (int on : rule.mustNot) {
                    state(on != rule.statement && !hanging[on][rule.statement]);
                }
            }
        }
        state(rules.size() < 20);
        rules.add(more.get(more.size() - 1));
        return rules.size() - 1;
    }

    public int dropRule(int rule) {
        index(within(rule, rules.size()) && rules.get(rule) != null);
        return rules.set(rule, null).statement;
    }

    /** The least set that follows, if just those of the other set count as holding where one must not. */
    private Set<Integer> following(Set<Integer> facts, Set<Integer> taken) {
        Set<Integer> result = new TreeSet<>(facts);
        boolean isMore = true;
        while (isMore) {
            isMore = false;
            for (Rule rule : rules) {
                if (rule != null && result.containsAll(rule.must) && rule.mustNot.stream().noneMatch(taken::contains)) {
                    isMore |= result.add(rule.statement);
                }
            }
        }
        return result;
    }

    /** From too few and too many the two go towards one another, until they meet. */
    private Set<Integer> holding(Set<Integer> facts) {
        Set<Integer> few = new TreeSet<>(facts);
        Set<Integer> many = following(facts, few);
        for (int round = 0; round < 20 && !few.equals(many); round++) {
            few = following(facts, many);
            many = following(facts, few);
        }
        if (!few.equals(many)) {
            throw new AssertionError("the rules are in a circle");
        }
        return few;
    }

    private Set<Integer> facts(Change change, Set<Change> landing) {
        Set<Integer> result = new TreeSet<>();
        Set<Integer> approving = new TreeSet<>();
        boolean isRefused = false;
        boolean isVerified = false;
        boolean isBroken = false;
        for (int person = 0; person < 6; person++) {
            if (worthNow(person, change, 0) == 2) {
                approving.add(person);
            }
            isRefused |= worthNow(person, change, 0) == -2;
            isVerified |= worthNow(person, change, 1) == 1;
            isBroken |= worthNow(person, change, 1) == -1;
        }
        add(result, 0, changedFiles(change).stream().allMatch(file -> approving.stream().anyMatch(person ->
                person != change.owner && bits(owners(change.repository, file)).contains(person))));
        add(result, 1, !isRefused);
        add(result, 2, isVerified && !isBroken);
        add(result, 3, unresolved(change.number) == 0);
        add(result, 4, change.inWork);
        add(result, 5, change.isPrivate);
        Change parent = parent(change);
        add(result, 6, parent == null || parent.state == 1 || landing.contains(parent));
        add(result, 7, approving.stream().anyMatch(person -> person != uploaders.get(change.current())));
        return result;
    }

    private static void add(Set<Integer> set, int statement, boolean isHolding) {
        if (isHolding) {
            set.add(statement);
        }
    }

    public int statements(int change) {
        return mask(holding(facts(change(change), Set.of())));
    }

    public int lacks(int change) {
        int facts = mask(facts(change(change), Set.of()));
        return IntStream.range(0, 256).boxed().filter(flips -> holding(bits(facts ^ flips)).contains(15))
                .min(Comparator.comparingInt((Integer flips) -> Integer.bitCount(flips)).thenComparingInt(flips -> flips))
                .orElse(-1);
    }

    // ---- the face: landing

    public int setWay(int repository, int way) {
        index(within(repository, 2));
        argument(within(way, 3));
        int result = ways[repository];
        ways[repository] = way;
        return result;
    }

    private Set<Change> groupOf(Change change) {
        Set<Change> result = new HashSet<>(List.of(change));
        for (int round = 0; round < 50; round++) {
            for (Change one : List.copyOf(result)) {
                Change parent = parent(one);
                if (parent != null && parent.state == 0) {
                    result.add(parent);
                }
                changes.stream().filter(other -> other.state == 0 && one.topic != -1 && other.topic == one.topic)
                        .forEach(result::add);
            }
        }
        return result;
    }

    public int group(int change) {
        state(change(change).state == 0);
        return mask(groupOf(change(change)).stream().map(one -> one.number).toList());
    }

    /** Null if a change does not land. */
    private Map<Change, Integer> landed(Set<Change> group) {
        Map<Change, Integer> result = new HashMap<>();
        List<Change> waiting = new ArrayList<>(changes.stream().filter(group::contains).toList());
        while (!waiting.isEmpty()) {
            Change next = waiting.stream().filter(one -> !waiting.contains(parent(one))).findFirst().orElseThrow();
            waiting.remove(next);
            int way = ways[next.repository];
            int tip = tipOf(next.repository);
            if (way == 0) {
                if (base(next) != tip) {
                    return null;
                }
                trunks.get(next.repository).add(next.current());
                names.put(next.current(), next.number);
                result.put(next, next.current());
            } else if (way == 1 || group.stream().noneMatch(child -> parent(child) == next)) {
                int old = base(next);
                for (Change above = parent(next); way == 2 && group.contains(above); above = parent(above)) {
                    old = base(above);
                }
                List<List<Integer>> merged = merge(old, next.current(), tip);
                if (merged == null || commits.size() == 80) {
                    return null;
                }
                commits.add(new Commit(next.repository, tip, merged));
                int commit = commits.size() - 1;
                trunks.get(next.repository).add(commit);
                names.put(commit, next.number);
                result.put(next, commit);
                for (Change above = parent(next); way == 2 && group.contains(above); above = parent(above)) {
                    result.putIfAbsent(above, commit);
                }
            }
        }
        return result;
    }

    public int land(int person, int change) {
        index(within(person, 6));
        Change its = change(change);
        state(its.state == 0 && sees(person, its));
        Set<Change> group = groupOf(its);
        for (Change one : group) {
            if (isOutdated(one) || !holding(facts(one, group)).contains(15)) {
                return 0;
            }
        }
        List<Commit> commitsBefore = List.copyOf(commits);
        List<List<Integer>> trunksBefore = copy(trunks);
        Map<Integer, Integer> namesBefore = Map.copyOf(names);
        Map<Change, Integer> landed = landed(group);
        if (landed == null) {
            commits = new ArrayList<>(commitsBefore);
            trunks = trunksBefore;
            names = new HashMap<>(namesBefore);
            return -1;
        }
        for (Change one : group) {
            one.landed = landed.get(one);
            end(one, 1, person);
        }
        return group.size();
    }

    // ---- the face: turns, mails, days

    public boolean addReviewer(int person, int change) {
        index(within(person, 6));
        Change its = change(change);
        state(its.state == 0 && its.owner != person);
        boolean result = !reviewersOf(its).contains(person);
        its.added.add(person);
        giveTurn(its, Set.of(person));
        return result;
    }

    public int reviewers(int change) {
        return mask(reviewersOf(change(change)));
    }

    public int whoseTurn(int change) {
        return mask(change(change).turn);
    }

    public boolean watch(int person, int repository, boolean isWatched) {
        index(within(person, 6) && within(repository, 2));
        Set<Integer> its = watchers.get(repository);
        return isWatched ? !its.add(person) : its.remove(person);
    }

    public int mails(int person) {
        index(within(person, 6));
        return mails[person];
    }

    public int advance(int days) {
        argument(days >= 1 && days <= 100);
        state(day + days <= 10000);
        int result = 0;
        for (int passed = 0; passed < days; passed++) {
            day++;
            for (Change change : changes) {
                if (change.state == 0 && day == change.lastAct + 30) {
                    end(change, 2, -1);
                    result++;
                }
            }
        }
        return result;
    }

    public int day() {
        return day;
    }
}
