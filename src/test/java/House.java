/** Steps that many tests take, and what they read, as short texts. */
final class House {
    static final int NONE = ReviewForge.NONE;

    private House() {
    }

    /** Makes the lines of a file of the desk just these. */
    static void fill(ReviewForge forge, int file, int... lines) {
        while (forge.line(NONE, file, 0) != NONE) {
            forge.cut(file, 0);
        }
        for (int place = 0; place < lines.length; place++) {
            forge.put(file, place, lines[place]);
        }
    }

    /** Puts so many lines into a file of the desk that it has 10. */
    static void fillUp(ReviewForge forge, int file) {
        for (int size = sizeOfDesk(forge, file); size < 10; size++) {
            forge.put(file, size, 80 + size);
        }
    }

    /** A new house, with these lines in the file 0 of the desk. */
    static ReviewForge with(int... lines) {
        ReviewForge forge = new ReviewForge();
        fill(forge, 0, lines);
        return forge;
    }

    /** The house with one change of the person 0, whose file 0 has these lines. */
    static ReviewForge opened(int... lines) {
        ReviewForge forge = with(lines);
        forge.open(0);
        return forge;
    }

    /** Opens a change of the person 0 on a commit, with these lines in one file; answers its number. */
    static int openOn(ReviewForge forge, int commit, int file, int... lines) {
        forge.take(commit);
        fill(forge, file, lines);
        return forge.open(0);
    }

    /** Opens a change of the person 0 on a commit, with one more line at the end of a file; answers its number. */
    static int openWithMore(ReviewForge forge, int commit, int file, int line) {
        forge.take(commit);
        forge.put(file, sizeOfDesk(forge, file), line);
        return forge.open(0);
    }

    private static int sizeOfDesk(ReviewForge forge, int file) {
        int size = 0;
        while (forge.line(NONE, file, size) != NONE) {
            size++;
        }
        return size;
    }

    /** Uploads a patch set on a commit, with these lines in one file; answers its number. */
    static int uploadOn(ReviewForge forge, int person, int change, int commit, int file, int... lines) {
        forge.take(commit);
        fill(forge, file, lines);
        return forge.upload(person, change);
    }

    /** The lines of a file of a commit, or of the desk (NONE). */
    static String lines(ReviewForge forge, int commit, int file) {
        StringBuilder text = new StringBuilder();
        for (int place = 0; forge.line(commit, file, place) != NONE; place++) {
            text.append(place == 0 ? "" : " ").append(forge.line(commit, file, place));
        }
        return text.toString();
    }

    static int current(ReviewForge forge, int change) {
        return forge.commitOf(change, forge.sets(change) - 1);
    }

    /** The hunks between two sets of lines, each as the face tells it. */
    static String hunks(boolean isByWords, int[] first, int[] second) {
        ReviewForge forge = opened(first);
        fill(forge, 0, second);
        forge.upload(0, 0);
        return hunks(forge, 0, 0, 1, 0, isByWords);
    }

    static String hunks(ReviewForge forge, int change, int set, int other, int file, boolean isByWords) {
        StringBuilder text = new StringBuilder();
        int many = forge.hunks(change, set, other, file, isByWords);
        for (int hunk = 0; hunk < many; hunk++) {
            text.append(hunk == 0 ? "" : " ").append(forge.hunkAt(change, set, other, file, isByWords, hunk));
        }
        return text.toString();
    }

    /** What comes of a merge of the second and the third lines, which come from the first ones. */
    static String merged(int[] old, int[] one, int[] two) {
        ReviewForge forge = opened(old);
        openOn(forge, 2, 0, one);
        uploadOn(forge, 0, 0, 0, 0, two);
        try {
            forge.rebase(0, 1);
        } catch (IllegalStateException conflict) {
            return "conflict";
        }
        return lines(forge, current(forge, 1), 0);
    }

    /** Lets each change be ready. */
    static ReviewForge allReady(ReviewForge forge) {
        forge.addRule(15, 0, 0);
        return forge;
    }

    static int[] of(int... lines) {
        return lines;
    }

    static int[] row(int first, int many) {
        int[] result = new int[many];
        for (int at = 0; at < many; at++) {
            result[at] = first + at;
        }
        return result;
    }
}
