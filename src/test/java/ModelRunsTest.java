import java.lang.reflect.InvocationTargetException;
import java.lang.reflect.Method;
import java.util.ArrayList;
import java.util.Arrays;
import java.util.HashMap;
import java.util.List;
import java.util.Map;
import java.util.Random;
import java.util.TreeMap;

/**
 * Random scenes on the program and on the model, which have to answer the same to every call. The random numbers have
 * fixed seeds, so that each run of the test is the same. Arguments, if there are some: the first seed, how many runs,
 * and anything more for a list of what was answered how often.
 */
public final class ModelRunsTest {
    private static final int CALLS = 460;
    private static final Map<String, Integer> ANSWERS = new TreeMap<>();
    private static final Map<String, Method> METHODS = new HashMap<>();
    private static boolean isWrong = false;

    private final Random random;
    private final ReviewForge forge = new ReviewForge();
    private final Model model = new Model();
    private final List<String> told = new ArrayList<>();
    private final boolean isWide;
    private final boolean isForGroups;
    private int count;

    private ModelRunsTest(long seed) {
        random = new Random(seed);
        isWide = random.nextInt(4) == 0;
        isForGroups = seed % 5 == 0;
    }

    public static void main(String[] args) {
        long first = args.length > 0 ? Long.parseLong(args[0]) : 1;
        long runs = args.length > 1 ? Long.parseLong(args[1]) : 300;
        for (long seed = first; seed < first + runs && !isWrong; seed++) {
            new ModelRunsTest(seed).run(seed);
        }
        if (args.length > 2) {
            ANSWERS.forEach((answer, times) -> System.out.println(answer + ": " + times));
        }
        if (!isWrong && runs >= 300) {
            needAnswers();
        }
        if (isWrong) {
            System.exit(1);
        }
        System.out.println("ModelRunsTest: " + runs + " runs alike");
    }

    /** The runs are worth something only as long as they come to these. */
    private static void needAnswers() {
        for (String need : List.of("land = 3", "land = 5", "land = -1", "land = 0", "rebase throws IllegalStateException",
                "takeFixes throws IllegalStateException", "addRule throws IllegalStateException",
                "answer throws IllegalStateException", "publish throws IllegalStateException")) {
            if (!ANSWERS.containsKey(need)) {
                System.out.println("no run came to: " + need);
                isWrong = true;
            }
        }
    }

    private void run(long seed) {
        if (random.nextInt(3) > 0) {
            call("addRule", 15, pick(2, 2 + 64, 0, 8), pick(32, 0, 16));
        }
        if (random.nextInt(3) == 0) {
            call("setWay", 0, random.nextInt(3));
            call("setWay", 1, random.nextInt(3));
        }
        for (int time = 0; time < 3; time++) {
            openOne();
        }
        if (isForGroups) {
            fillTrunks();
        }
        while (count < CALLS && !isWrong) {
            if (isForGroups) {
                groupScene();
            } else {
                scene();
            }
        }
        sweep();
        if (isWrong) {
            System.out.println("seed " + seed);
            told.forEach(System.out::println);
        }
    }

    // ---- calls

    private int call(String name, Object... arguments) {
        String want = answerOf(model, name, arguments);
        String got = answerOf(forge, name, arguments);
        count++;
        told.add("  " + name + Arrays.toString(arguments) + " = " + want);
        boolean isThrown = want.startsWith("throws");
        boolean isTold = List.of("land", "kindOf", "hunks").contains(name);
        ANSWERS.merge(name + " " + (isThrown ? want : isTold ? "= " + want : "answers"), 1, Integer::sum);
        if (!got.equals(want) && !isWrong) {
            isWrong = true;
            told.add("the program answered " + got);
        }
        return isThrown || want.equals("true") || want.equals("false") ? -2 : Integer.parseInt(want);
    }

    private static String answerOf(Object object, String name, Object[] arguments) {
        String key = object.getClass().getName() + name + arguments.length;
        Method method = METHODS.computeIfAbsent(key, ignored -> find(object.getClass(), name, arguments.length));
        try {
            return String.valueOf(method.invoke(object, arguments));
        } catch (InvocationTargetException thrown) {
            return "throws " + Expect.nameOf(thrown.getCause());
        } catch (IllegalAccessException closed) {
            throw new IllegalStateException(closed);
        }
    }

    private static Method find(Class<?> type, String name, int many) {
        for (Method method : type.getMethods()) {
            if (method.getName().equals(name) && method.getParameterCount() == many) {
                method.setAccessible(true);
                return method;
            }
        }
        throw new IllegalStateException("no call " + name);
    }

    // ---- random numbers

    private int pick(int... some) {
        return some[random.nextInt(some.length)];
    }

    /** Seldom a number that is out of range. */
    private int below(int end) {
        if (end <= 0 || random.nextInt(150) == 0) {
            return pick(-1, end, end + 1, Integer.MAX_VALUE, Integer.MIN_VALUE);
        }
        return random.nextInt(end);
    }

    private int person() {
        return below(6);
    }

    private int line() {
        return random.nextInt(200) == 0 ? pick(-1, 400) : random.nextInt(isWide ? 12 : 4) + 100 * pick(0, 0, 0, 1, 3);
    }

    private int file() {
        return below(random.nextInt(3) > 0 ? 1 : 4);
    }

    /** Mostly one that is open. */
    private int change() {
        int result = below(model.changes());
        for (int time = 0; time < 3 && within(result, model.changes()) && model.stateOf(result) != 0; time++) {
            result = below(model.changes());
        }
        return result;
    }

    private static boolean within(int number, int end) {
        return number >= 0 && number < end;
    }

    private int setsOf(int change) {
        return within(change, model.changes()) ? model.sets(change) : 1;
    }

    private int set(int change) {
        return random.nextInt(3) > 0 ? setsOf(change) - 1 : below(setsOf(change));
    }

    private int sizeOf(int commit, int file) {
        int size = 0;
        while (within(file, 4) && model.line(commit, file, size) != -1) {
            size++;
        }
        return size;
    }

    private int sizeOf(int change, int set, int file) {
        return within(set, setsOf(change)) && within(change, model.changes())
                ? sizeOf(model.commitOf(change, set), file) : 0;
    }

    // ---- scenes

    private void scene() {
        switch (random.nextInt(20)) {
            case 0, 1 -> openOne();
            case 2, 3, 4 -> amend(change());
            case 5 -> growChain();
            case 6, 7 -> speak();
            case 8 -> fix();
            case 9 -> own();
            case 10, 11 -> vote(change());
            case 12 -> tellRule();
            case 13, 14, 15 -> land();
            case 16 -> call("rebase", person(), change());
            case 17 -> people();
            case 18 -> look();
            default -> odds();
        }
    }

    private void edit() {
        int many = 1 + random.nextInt(4);
        for (int time = 0; time < many; time++) {
            int file = file();
            int size = sizeOf(-1, file);
            if (random.nextInt(3) == 0 && size > 0) {
                call("cut", file, below(size));
            } else {
                call("put", file, below(size + 1), line());
            }
        }
    }

    private void openOne() {
        call("take", random.nextBoolean() ? model.tip(random.nextInt(4) / 3) : below(model.commits()));
        edit();
        call("open", person());
        if (random.nextInt(3) == 0) {
            call("setTopic", change(), random.nextInt(20) == 0 ? 4 : random.nextInt(5) - 1);
        }
    }

    private void growChain() {
        int change = change();
        int set = set(change);
        if (within(change, model.changes()) && within(set, model.sets(change))) {
            call("take", model.commitOf(change, set));
            edit();
            if (random.nextBoolean()) {
                call("open", person());
            } else {
                call("upload", person(), change());
            }
        }
    }

    private void amend(int change) {
        call("takeSet", change, set(change));
        if (random.nextInt(4) > 0) {
            edit();
        }
        call("upload", person(), change);
        call("kindOf", change, setsOf(change) - 1);
        int other = below(setsOf(change));
        int file = file();
        boolean isByWords = random.nextBoolean();
        int hunks = call("hunks", change, other, setsOf(change) - 1, file, isByWords);
        for (int hunk = 0; hunk <= hunks; hunk++) {
            call("hunkAt", change, other, setsOf(change) - 1, file, isByWords, hunk);
        }
        if (random.nextInt(3) == 0) {
            rebaseChildren(change);
        }
    }

    private void rebaseChildren(int parent) {
        for (int child = 0; child < model.changes(); child++) {
            if (model.parentOf(child) >= 0 && model.parentOf(child) / 10 == parent) {
                call("rebase", person(), child);
                call("parentOf", child);
                int file = file();
                boolean isByWords = random.nextBoolean();
                int last = model.sets(child) - 1;
                int hunks = call("hunks", child, Math.max(0, last - 1), last, file, isByWords);
                call("hunkAt", child, Math.max(0, last - 1), last, file, isByWords, hunks - 1);
                call("kindOf", child, last);
            }
        }
    }

    private void speak() {
        int change = change();
        int person = person();
        int set = set(change);
        int file = file();
        int from = below(sizeOf(change, set, file));
        int many = 1 + random.nextInt(random.nextInt(3) + 1);
        int comment = call("comment", person, change, set, file, from, many, random.nextBoolean());
        if (random.nextInt(3) > 0) {
            call("publish", random.nextInt(8) == 0 ? person() : person, change);
        }
        if (random.nextBoolean() && comment >= 0) {
            int asked = below(comment + 1);
            int other = person();
            call("answer", other, asked, random.nextBoolean());
            call("publish", other, within(asked, comment + 1) && random.nextBoolean() ? change : change());
        }
        call("whoseTurn", change);
        call("unresolved", change);
        lookAtComments();
    }

    private void lookAtComments() {
        for (int time = 0; time < 4; time++) {
            int comment = random.nextInt(1 + model.commentCount());
            if (comment < model.commentCount()) {
                call("shown", comment, below(setsOf(model.changeOfComment(comment))));
            } else {
                call("shown", comment, 0);
            }
        }
    }

    private void fix() {
        int change = change();
        int set = setsOf(change) - pick(1, 1, 1, 1, 2);
        int many = 1 + random.nextInt(4);
        for (int time = 0; time < many; time++) {
            int file = file();
            int size = sizeOf(change, set, file);
            int from = below(size + 1);
            int length = random.nextInt(3) == 0 ? below(size + 1) : Math.min(pick(0, 0, 1), Math.max(0, size - from));
            call("find", change, set, file, from, length, random.nextInt(3) == 0 ? -1 : line());
        }
        for (int time = 0; time < 3; time++) {
            int end = Math.min(30, model.findingCount(change));
            int fixes = call("takeFixes", change, random.nextInt(20) == 0 ? pick(-1, 1 << end)
                    : random.nextInt(1 << end) & pick(-1, 5, 9, 3, 21));
            if (fixes > 0) {
                for (int file = 0; file < 4; file++) {
                    for (int place = 0; place <= sizeOf(-1, file); place++) {
                        call("line", -1, file, place);
                    }
                }
                break;
            }
        }
    }

    private void own() {
        int repository = below(2);
        call("setOwners", repository, below(7), random.nextInt(30) == 0 ? 64 : random.nextInt(64) & random.nextInt(64),
                random.nextInt(3) == 0);
        call("setInclude", repository, below(2), random.nextBoolean());
        call("owners", repository, below(4));
        call("fewest", change());
        if (random.nextInt(4) == 0) {
            call("setLastResort", person());
        }
    }

    private void vote(int change) {
        int many = 1 + random.nextInt(3);
        for (int time = 0; time < many; time++) {
            int label = random.nextInt(40) == 0 ? 2 : random.nextInt(2);
            int value = label == 0 ? pick(-3, -2, -1, 0, 1, 2, 2, 2, 2) : pick(-2, -1, 0, 1, 1, 1, 1);
            call("vote", person(), change, set(change), label, value);
        }
        call("worth", person(), change, below(setsOf(change)), random.nextInt(2));
        call("statements", change);
        call("whoseTurn", change);
        if (random.nextInt(4) == 0) {
            call("setCopied", below(2), below(3), below(32));
        }
    }

    private void tellRule() {
        int must = 1 << random.nextInt(16) & pick(-1, 255) | (random.nextBoolean() ? 1 << random.nextInt(16) : 0);
        int mustNot = random.nextInt(3) == 0 ? 0 : 1 << random.nextInt(16) & pick(-1, -1, 255);
        call("addRule", random.nextInt(3) == 0 ? 15 : 7 + random.nextInt(9), random.nextInt(40) == 0 ? 65536 : must,
                mustNot);
        if (random.nextInt(3) == 0) {
            call("dropRule", below(random.nextInt(8) + 1));
        }
        call("statements", change());
        call("lacks", change());
    }

    private void land() {
        int change = change();
        int group = call("group", change);
        if (random.nextInt(4) > 0 && group > 0) {
            makeReady(group);
        }
        if (random.nextInt(6) == 0) {
            call("setWay", below(2), below(3));
        }
        int landed = call("land", person(), change);
        call("tip", random.nextInt(2));
        call("commits");
        if (landed > 0) {
            call("namedAfter", model.commits() - 1);
            for (int number = 0; number < model.changes(); number++) {
                call("stateOf", number);
                if (random.nextBoolean()) {
                    call("rebase", person(), number);
                }
            }
        }
    }

    private void makeReady(int group) {
        for (int number = 0; number < model.changes(); number++) {
            if ((group >> number & 1) == 1) {
                for (int person = 0; person < 6; person++) {
                    if (random.nextInt(5) > 0 && (model.fewest(number) >> person & 1) == 1) {
                        call("vote", person, number, model.sets(number) - 1, 0, 2);
                    }
                }
                if (random.nextInt(5) > 0) {
                    call("vote", person(), number, model.sets(number) - 1, 1, 1);
                }
                if (model.parentOf(number) % 10 == 1) {
                    call("rebase", person(), number);
                }
            }
        }
    }

    /** Files with room for changes that do not touch one another, and nothing that a change would lack. */
    private void fillTrunks() {
        call("addRule", 15, 0, 0);
        for (int repository = 0; repository < 2; repository++) {
            call("take", model.tip(repository));
            for (int line = 0; line < 36; line++) {
                call("put", line / 9, line % 9, line);
            }
            call("land", 0, call("open", repository));
        }
    }

    private void groupScene() {
        switch (random.nextInt(8)) {
            case 0, 1, 2, 3 -> growGroup();
            case 4 -> call("setTopic", change(), random.nextInt(3) - 1);
            case 5 -> call("rebase", person(), change());
            case 6 -> call("setWay", random.nextInt(2), pick(0, 1, 2, 2, 2));
            default -> landGroup();
        }
    }

    /** A line is changed on top of a change or of a trunk, as a new change or, so that a parent is higher, an old one. */
    private void growGroup() {
        int parent = change();
        boolean isOnChange = random.nextInt(4) > 0 && within(parent, model.changes());
        call("take", isOnChange ? model.commitOf(parent, model.sets(parent) - 1) : model.tip(random.nextInt(4) / 3));
        int file = random.nextInt(4);
        int place = 2 * random.nextInt(5);
        if (place < sizeOf(-1, file)) {
            call("cut", file, place);
            call("put", file, place, 100 + random.nextInt(300));
        }
        int change = random.nextBoolean() ? call("open", person()) : change();
        if (change != model.changes() - 1 || random.nextInt(4) == 0) {
            call("upload", person(), change);
        }
        if (random.nextInt(3) == 0) {
            call("setTopic", change, random.nextInt(2));
        }
    }

    private void landGroup() {
        int change = change();
        int group = call("group", change);
        for (int number = 0; number < model.changes() && group > 0; number++) {
            boolean isOutdated = (group >> number & 1) == 1 && model.parentOf(number) % 10 == 1;
            if (isOutdated && random.nextInt(8) > 0) {
                call("rebase", person(), number);
            }
        }
        int landed = call("land", person(), change);
        call("commits");
        for (int commit = model.commits() - Math.max(landed, 0); commit < model.commits(); commit++) {
            call("namedAfter", commit);
            call("before", commit);
        }
        for (int number = 0; number < model.changes() && landed > 1; number++) {
            call("rebase", person(), number);
            call("before", model.commitOf(number, model.sets(number) - 1));
        }
    }

    private void people() {
        int change = change();
        switch (random.nextInt(6)) {
            case 0 -> call("setFlags", change, random.nextInt(3) == 0, random.nextInt(3) == 0);
            case 1, 2 -> call("addReviewer", person(), change);
            case 3 -> call("watch", person(), below(2), random.nextInt(4) > 0);
            case 4 -> call("abandon", person(), change);
            default -> call("setFlags", change, false, false);
        }
        call("whoseTurn", change);
        call("reviewers", change);
        call("mails", person());
        for (int number = 0; number < model.changes(); number++) {
            if (model.stateOf(number) == 2 && random.nextBoolean()) {
                call("restore", number);
            }
        }
    }

    private void look() {
        call("parentOf", change());
        call("sets", change());
        call("changes");
        call("day");
        call("before", random.nextInt(model.commits() + 2) - 1);
        call("namedAfter", below(model.commits()));
        call("lacks", change());
        call("line", random.nextInt(model.commits() + 2) - 1, below(4), random.nextInt(12) - 1);
    }

    private void odds() {
        int change = change();
        call("advance", random.nextInt(12) == 0 ? pick(-1, 0, 30, 101) : 1 + random.nextInt(9));
        call("commitOf", change, set(change));
        call("restore", change);
        call("unresolved", change);
        call("setTopic", change, random.nextInt(5) - 1);
        if (random.nextInt(8) == 0) {
            int other = change();
            for (int time = 0; time < 30; time++) {
                call("upload", person(), other);
            }
        }
    }

    /** At the end all that can be asked for. */
    private void sweep() {
        for (int commit = -1; commit <= model.commits(); commit++) {
            call("before", commit);
            call("namedAfter", commit);
            for (int file = 0; file < 4; file++) {
                for (int place = 0; place <= sizeOf(Math.min(commit, model.commits() - 1), file); place++) {
                    call("line", commit, file, place);
                }
            }
        }
        for (int change = 0; change <= model.changes(); change++) {
            for (String name : List.of("stateOf", "sets", "parentOf", "unresolved", "fewest", "statements", "lacks",
                    "group", "reviewers", "whoseTurn")) {
                call(name, change);
            }
            for (int set = 0; set < setsOf(change); set++) {
                call("commitOf", change, set);
                call("kindOf", change, set);
                call("worth", set % 6, change, set, set % 2);
                call("hunks", change, 0, set, set % 4, set % 2 == 0);
            }
        }
        for (int comment = 0; comment < model.commentCount(); comment++) {
            call("shown", comment, setsOf(model.changeOfComment(comment)) - 1);
        }
        for (int person = 0; person < 6; person++) {
            call("mails", person);
        }
    }
}
