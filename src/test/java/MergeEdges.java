/** The boundary cases of comparing and merging, which the terms tell. */
final class MergeEdges {
    private MergeEdges() {
    }

    static void run() {
        pairs();
        allSmallFiles();
        hunks();
        alikeHunks();
        theOldOneFirst();
        touching();
        touchingAtTheEnds();
        conflicts();
        hunksThatAreTheSame();
        behindOtherHunks();
        tooManyLines();
    }

    private static void compared(String what, int[] first, int[] second, String due) {
        Edge.due(what, House.hunks(false, first, second), due);
    }

    private static void pairs() {
        Edge.says("To compare a first file with a second one is to pair as many lines that are the same as can be,");
        compared("both empty", House.of(), House.of(), "");
        compared("the first one empty", House.of(), House.of(1), "1");
        compared("the second one empty", House.of(1), House.of(), "10000");
        compared("the same", House.of(1, 2, 3), House.of(1, 2, 3), "");
        compared("ten and the same ten", House.row(0, 10), House.row(0, 10), "");
        compared("two pairs rather than one", House.of(3, 1, 2), House.of(1, 2, 3), "10000 3000201");
        compared("the tenth of ten is another one", House.row(0, 10), House.of(0, 1, 2, 3, 4, 5, 6, 7, 8, 99), "9010901");
        compared("ten others", House.row(0, 10), House.row(50, 10), "100010");
        compared("the tenth of ten alone is the same", House.of(0, 1, 2, 3, 4, 5, 6, 7, 8, 99),
                House.of(50, 51, 52, 53, 54, 55, 56, 57, 58, 99), "90009");
        compared("the tenth is the same as the first", House.row(0, 10), House.of(9), "90000");
        compared("the first is the same as the tenth", House.of(9), House.row(0, 10), "9");
        compared("the ninth is gone", House.row(0, 10), House.of(0, 1, 2, 3, 4, 5, 6, 7, 9), "8010800");

        Edge.says("so that of two pairs the one that is later in one file is later in the other one.");
        compared("crossing pairs are none", House.of(1, 2), House.of(2, 1), "10000 2000101");
        compared("ten the other way round", House.row(0, 10), House.of(9, 8, 7, 6, 5, 4, 3, 2, 1, 0), "90000 10000109");

        Edge.says("if the lines there are the same, they are paired, and it goes on behind both;");
        compared("the first of two", House.of(5, 5), House.of(5), "1010100");
        compared("with the first of two", House.of(5), House.of(5, 5), "1000101");
        compared("also if a later one would do", House.of(1, 2, 1), House.of(1), "1020100");
        Edge.says("otherwise, if just as many pairs can be had without the line of the first file, it goes on behind"
                + " that, otherwise behind that of the second one.");
        compared("just as many without the 1", House.of(1, 2), House.of(2, 1), "10000 2000101");
        compared("fewer without the 1", House.of(1, 2), House.of(3, 1, 2), "1");
        compared("just as many, then the second one's", House.of(1, 2, 3), House.of(3, 2, 1), "20000 3000102");
        compared("the lines of the first file go before those of the second one come", House.of(1, 9), House.of(2, 9), "10001");
        compared("again and again", House.of(1, 2, 3, 1), House.of(2, 1, 3), "10000 2010100 4000201");
    }

    /** As the sentence goes, on all files of up to 4 lines of 3 words. */
    private static void allSmallFiles() {
        Edge.says("It goes from the beginnings of both:");
        int wrong = 0;
        int[][] files = new int[121][];
        int many = 0;
        for (int size = 0; size <= 4; size++) {
            for (int code = 0; code < Math.pow(3, size); code++) {
                files[many] = new int[size];
                for (int at = 0, rest = code; at < size; at++, rest /= 3) {
                    files[many][at] = rest % 3;
                }
                many++;
            }
        }
        Edge.due("files", many, files.length);
        for (int[] first : files) {
            ReviewForge forge = House.opened(first);
            for (int second = 0; second < files.length; second++) {
                if (second % 60 == 0) {
                    forge = House.opened(first);
                }
                House.fill(forge, 0, files[second]);
                int set = forge.upload(0, 0);
                wrong += House.hunks(forge, 0, 0, set, 0, false).equals(told(first, files[second])) ? 0 : 1;
            }
        }
        Edge.due("files that are not compared as told", wrong, 0);
    }

    private static String told(int[] first, int[] second) {
        StringBuilder text = new StringBuilder();
        int i = 0;
        int j = 0;
        int dropAt = 0;
        int addAt = 0;
        while (i < first.length || j < second.length) {
            boolean isPair = i < first.length && j < second.length && first[i] == second[j];
            if (isPair) {
                tell(text, dropAt, i, addAt, j);
                i++;
                j++;
                dropAt = i;
                addAt = j;
            } else if (i < first.length && most(first, i + 1, second, j) == most(first, i, second, j)) {
                i++;
            } else {
                j++;
            }
        }
        tell(text, dropAt, i, addAt, j);
        return text.toString();
    }

    private static void tell(StringBuilder text, int dropAt, int i, int addAt, int j) {
        if (i > dropAt || j > addAt) {
            text.append(text.length() == 0 ? "" : " ");
            text.append(1000000 * dropAt + 10000 * (i - dropAt) + 100 * addAt + j - addAt);
        }
    }

    private static int most(int[] first, int i, int[] second, int j) {
        if (i >= first.length || j >= second.length) {
            return 0;
        }
        int without = Math.max(most(first, i + 1, second, j), most(first, i, second, j + 1));
        return first[i] == second[j] ? Math.max(without, 1 + most(first, i + 1, second, j + 1)) : without;
    }

    private static void hunks() {
        Edge.says("A hunk is a greatest stretch of both without pairs; its lines of the first file are dropped, those of"
                + " the second one added.");
        compared("lines side by side are one", House.of(1, 2, 3, 4), House.of(1, 8, 9, 4), "1020102");
        compared("with a pair in between there are two", House.of(1, 2, 3, 4, 5), House.of(1, 8, 3, 9, 5), "1010101 3010301");
        compared("at the beginning and at the end", House.of(1, 2, 3), House.of(8, 2, 9), "10001 2010201");
        compared("as many as there can be", House.row(0, 10), House.of(50, 1, 52, 3, 54, 5, 56, 7, 58, 9),
                "10001 2010201 4010401 6010601 8010801");
        compared("six of them", House.of(1, 2, 3, 4, 5), House.of(50, 1, 51, 2, 52, 3, 53, 4, 54, 5),
                "1 1000201 2000401 3000601 4000801");
        compared("that drop alone", House.of(50, 1, 51, 2, 52, 3, 53, 4, 54, 5), House.of(1, 2, 3, 4, 5),
                "10000 2010100 4010200 6010300 8010400");
    }

    /** Whether the hunk from the one file to the other is alike to that from the third to the fourth. */
    private static boolean areAlike(int[] first, int[] second, int[] third, int[] fourth) {
        ReviewForge forge = new ReviewForge();
        House.openOn(forge, 0, 0, first);
        House.openOn(forge, 0, 0, third);
        House.openOn(forge, 2, 0, second);
        House.uploadOn(forge, 0, 2, 3, 0, fourth);
        return forge.kindOf(2, 1) == ReviewForge.TRIVIAL;
    }

    private static void alikeHunks() {
        Edge.says("Two hunks are alike if they drop the same lines, and add the same lines.");
        int[] old = House.of(1, 2, 3, 4);
        int[] edited = House.of(1, 8, 9, 4);
        Edge.due("the same", areAlike(old, edited, House.of(2, 3), House.of(8, 9)), true);
        Edge.due("fewer dropped", areAlike(old, edited, House.of(1, 2, 4), edited), false);
        Edge.due("more dropped", areAlike(old, edited, House.of(1, 2, 3, 5, 4), edited), false);
        Edge.due("others dropped, the last one", areAlike(old, edited, House.of(1, 2, 5, 4), edited), false);
        Edge.due("others dropped, the first one", areAlike(old, edited, House.of(1, 5, 3, 4), edited), false);
        Edge.due("the same dropped the other way round", areAlike(old, edited, House.of(1, 3, 2, 4), edited), false);
        Edge.due("fewer added", areAlike(old, edited, old, House.of(1, 8, 4)), false);
        Edge.due("more added", areAlike(old, edited, old, House.of(1, 8, 9, 7, 4)), false);
        Edge.due("others added, the last one", areAlike(old, edited, old, House.of(1, 8, 7, 4)), false);
        Edge.due("others added, the first one", areAlike(old, edited, old, House.of(1, 7, 9, 4)), false);
        Edge.due("the same added the other way round", areAlike(old, edited, old, House.of(1, 9, 8, 4)), false);
        Edge.due("none dropped", areAlike(House.of(1), House.of(1, 5), House.of(), House.of(5)), true);
        Edge.due("none added", areAlike(House.of(1, 5), House.of(1), House.of(5), House.of()), true);
        Edge.due("dropped rather than added", areAlike(House.of(1, 5), House.of(1), House.of(1), House.of(1, 5)), false);
        Edge.due("all of ten", areAlike(House.row(0, 10), House.row(20, 10), House.row(0, 10), House.row(20, 10)), true);
        Edge.due("the tenth dropped", areAlike(House.row(0, 10), House.of(), House.of(0, 1, 2, 3, 4, 5, 6, 7, 8, 99), House.of()), false);
        Edge.due("the tenth added", areAlike(House.of(), House.row(0, 10), House.of(), House.of(0, 1, 2, 3, 4, 5, 6, 7, 8, 99)), false);
    }

    private static void theOldOneFirst() {
        Edge.says("To merge two files that come from a third one, the old one: both are compared, the old one first.");
        merged("the first of two that are the same goes, as the old one is first", House.of(5, 5), House.of(1, 5),
                House.of(5, 5, 9), "1 5 9");
        merged("the other way round it would not touch", House.of(5, 5), House.of(1, 5), House.of(5), "conflict");
    }

    private static void merged(String what, int[] old, int[] one, int[] two, String due) {
        Edge.due(what, House.merged(old, one, two), due);
        Edge.due(what + ", the other way round", House.merged(old, two, one), due);
    }

    private static void touching() {
        Edge.says("A hunk of the one and a hunk of the other one touch, if in the old file each of both begins at the end"
                + " of the other one's dropped lines or ahead of that.");
        int[] old = House.row(0, 6);
        int[] first = House.of(0, 50, 2, 3, 4, 5);
        merged("one begins at the end of the other one", old, first, House.of(0, 1, 60, 3, 4, 5), "conflict");
        merged("one begins one line behind that", old, first, House.of(0, 1, 2, 60, 4, 5), "0 50 2 60 4 5");
        merged("one adds at the end of the other one", old, first, House.of(0, 1, 60, 2, 3, 4, 5), "conflict");
        merged("one adds one line behind that", old, first, House.of(0, 1, 2, 60, 3, 4, 5), "0 50 2 60 3 4 5");
        merged("one adds where the other one begins", old, first, House.of(0, 60, 1, 2, 3, 4, 5), "conflict");
        merged("one adds one line ahead of that", old, first, House.of(60, 0, 1, 2, 3, 4, 5), "60 0 50 2 3 4 5");
        merged("one is inside of the other one", House.row(0, 6), House.of(0, 50, 5), House.of(0, 1, 2, 60, 4, 5), "conflict");
        merged("both add at one place", old, House.of(0, 50, 1, 2, 3, 4, 5), House.of(0, 60, 1, 2, 3, 4, 5), "conflict");
        merged("both add, a line between them", old, House.of(0, 50, 1, 2, 3, 4, 5), House.of(0, 1, 60, 2, 3, 4, 5),
                "0 50 1 60 2 3 4 5");
        merged("both drop, one at the end of the other one", old, House.of(0, 2, 3, 4, 5), House.of(0, 1, 3, 4, 5), "conflict");
        merged("both drop, a line between them", old, House.of(0, 2, 3, 4, 5), House.of(0, 1, 2, 4, 5), "0 2 4 5");
    }

    private static void touchingAtTheEnds() {
        Edge.says("each of both begins at the end of the other one's dropped lines or ahead of that.");
        int[] old = House.of(1, 2, 3);
        merged("at the beginning", old, House.of(50, 1, 2, 3), House.of(60, 2, 3), "conflict");
        merged("behind the first line", old, House.of(50, 1, 2, 3), House.of(1, 60, 3), "50 1 60 3");
        merged("at the end", old, House.of(1, 2, 3, 50), House.of(1, 2, 60), "conflict");
        merged("ahead of the last line", old, House.of(1, 2, 3, 50), House.of(1, 60, 3), "1 60 3 50");
        merged("the empty file: both add", House.of(), House.of(50), House.of(60), "conflict");
        merged("the empty file: one adds", House.of(), House.of(50), House.of(), "50");
        merged("one drops all, the other one nothing", old, House.of(), old, "");
        merged("one drops all, the other one adds behind it", old, House.of(), House.of(1, 2, 3, 60), "conflict");
        merged("ten lines, at both ends", House.row(0, 10), House.of(50, 1, 2, 3, 4, 5, 6, 7, 8, 9),
                House.of(0, 1, 2, 3, 4, 5, 6, 7, 8, 60), "50 1 2 3 4 5 6 7 8 60");
        merged("ten lines, both at the last one", House.row(0, 10), House.of(0, 1, 2, 3, 4, 5, 6, 7, 8),
                House.of(0, 1, 2, 3, 4, 5, 6, 7, 8, 60), "conflict");
    }

    private static void conflicts() {
        Edge.says("If some hunks touch that do not begin at the same place and drop and add the same lines, there is a conflict.");
        int[] old = House.of(1, 2, 3, 4);
        merged("the same", old, House.of(1, 9, 3, 4), House.of(1, 9, 3, 4), "1 9 3 4");
        merged("they add other lines", old, House.of(1, 9, 3, 4), House.of(1, 8, 3, 4), "conflict");
        merged("one adds one line more", old, House.of(1, 9, 3, 4), House.of(1, 9, 8, 3, 4), "conflict");
        merged("one drops one line more", old, House.of(1, 9, 3, 4), House.of(1, 9, 4), "conflict");
        merged("another indent", old, House.of(1, 9, 3, 4), House.of(1, 109, 3, 4), "conflict");
        merged("they begin at places side by side", House.of(1, 1, 2), House.of(3, 1, 2), House.of(1, 3, 2), "conflict");
        merged("the same among others that do not touch", House.row(0, 6), House.of(50, 1, 9, 3, 4, 5),
                House.of(0, 1, 9, 3, 60, 5), "50 1 9 3 60 5");
        merged("one of two touches", House.row(0, 6), House.of(50, 1, 9, 3, 4, 5), House.of(0, 1, 9, 3, 4, 60), "50 1 9 3 4 60");
        merged("a second one is in conflict", House.row(0, 6), House.of(50, 1, 2, 3, 9, 5), House.of(50, 1, 2, 3, 8, 5), "conflict");
    }

    private static void hunksThatAreTheSame() {
        Edge.says("Otherwise all hunks of both are done on the old file, such as are the same once.");
        merged("both add the same to an empty file", House.of(), House.of(5), House.of(5), "5");
        merged("both drop the same", House.of(1, 2, 3), House.of(1, 3), House.of(1, 3), "1 3");
        merged("both drop all", House.of(1, 2, 3), House.of(), House.of(), "");
        merged("the same lines at two places", House.of(1, 2, 3), House.of(7, 1, 2, 3), House.of(1, 2, 3, 7), "7 1 2 3 7");
        merged("none of both", House.of(1, 2), House.of(1, 2), House.of(1, 2), "1 2");
        merged("all of ten are other ones, the same", House.row(0, 10), House.row(20, 10), House.row(20, 10),
                "20 21 22 23 24 25 26 27 28 29");
    }

    /** Places count in the old file, also behind a hunk by which the new one is longer or shorter. */
    private static void behindOtherHunks() {
        Edge.says("if in the old file each of both begins at the end of the other one's dropped lines or ahead of that.");
        int[] old = House.row(0, 8);
        int[] longer = House.of(50, 51, 0, 1, 2, 9, 4, 5, 6, 7);
        merged("longer: at the same place", old, longer, House.of(0, 1, 2, 60, 4, 5, 6, 7), "conflict");
        merged("longer: at the end", old, longer, House.of(0, 1, 2, 3, 60, 5, 6, 7), "conflict");
        merged("longer: one line behind that", old, longer, House.of(0, 1, 2, 3, 4, 60, 6, 7), "50 51 0 1 2 9 4 60 6 7");
        merged("longer: two lines behind that", old, longer, House.of(0, 1, 2, 3, 4, 5, 60, 7), "50 51 0 1 2 9 4 5 60 7");
        merged("longer: one line ahead", old, longer, House.of(0, 60, 2, 3, 4, 5, 6, 7), "50 51 0 60 2 9 4 5 6 7");
        merged("longer: the same", old, longer, House.of(0, 1, 2, 9, 4, 5, 6, 7), "50 51 0 1 2 9 4 5 6 7");
        int[] shorter = House.of(2, 3, 4, 9, 6, 7);
        merged("shorter: at the same place", old, shorter, House.of(0, 1, 2, 3, 4, 60, 6, 7), "conflict");
        merged("shorter: at the end", old, shorter, House.of(0, 1, 2, 3, 4, 5, 60, 7), "conflict");
        merged("shorter: one line ahead", old, shorter, House.of(0, 1, 2, 60, 4, 5, 6, 7), "2 60 4 9 6 7");
        merged("shorter: one line behind the first one", old, shorter, House.of(0, 1, 2, 60, 4, 5, 6, 7), "2 60 4 9 6 7");
        merged("shorter: one line behind the last one", old, shorter, House.of(0, 1, 2, 3, 4, 5, 6, 60), "2 3 4 9 6 60");
        merged("shorter: the same", old, shorter, House.of(0, 1, 2, 3, 4, 9, 6, 7), "2 3 4 9 6 7");
        merged("one longer, one shorter, the same behind it", old, House.of(0, 50, 51, 1, 2, 3, 4, 5, 9, 7),
                House.of(0, 1, 2, 4, 5, 9, 7), "0 50 51 1 2 4 5 9 7");
        merged("one longer, one shorter, not the same behind it", old, House.of(0, 50, 51, 1, 2, 3, 4, 5, 9, 7),
                House.of(0, 1, 2, 4, 5, 60, 7), "conflict");
        Edge.says("Two hunks are alike if they drop the same lines, and add the same lines.");
        Edge.due("the same behind a longer one", areAlike(House.of(1, 2, 3), House.of(8, 8, 1, 2, 9, 3), House.of(1, 2, 3, 4),
                House.of(8, 8, 1, 2, 9, 3, 4)), true);
        Edge.due("others behind a longer one", areAlike(House.of(1, 2, 3), House.of(8, 8, 1, 2, 9, 3), House.of(1, 2, 3, 4),
                House.of(8, 8, 1, 2, 7, 3, 4)), false);
        Edge.due("others behind a shorter one", areAlike(House.of(1, 2, 3, 4, 5), House.of(3, 6, 5), House.of(1, 2, 3, 4, 5, 9),
                House.of(3, 7, 5, 9)), false);
        Edge.due("the same behind a shorter one", areAlike(House.of(1, 2, 3, 4, 5), House.of(3, 6, 5), House.of(1, 2, 3, 4, 5, 9),
                House.of(3, 6, 5, 9)), true);
    }

    private static void tooManyLines() {
        Edge.says("Commits are merged file by file; there is a conflict if there is one in some file, or if one would have"
                + " more than 10 lines.");
        int[] old = House.of(1, 2, 3, 4);
        merged("10 lines", old, House.of(50, 51, 52, 1, 2, 3, 4), House.of(1, 2, 3, 4, 60, 61, 62), "50 51 52 1 2 3 4 60 61 62");
        merged("11 lines", old, House.of(50, 51, 52, 1, 2, 3, 4), House.of(1, 2, 3, 4, 60, 61, 62, 63), "conflict");
        merged("10, as one is dropped", old, House.of(50, 51, 52, 2, 3, 4), House.of(1, 2, 3, 60, 61, 62, 63, 4),
                "50 51 52 2 3 60 61 62 63 4");
        for (int file = 0; file < 4; file++) {
            Edge.due("a conflict in the file " + file, mergedFiles(file), "conflict");
        }
        Edge.due("none in each file", mergedFiles(4), "50 1 60,50 1 60,50 1 60,50 1 60");
    }

    /** All files are changed at both ends, but for one in which both change the one line. */
    private static String mergedFiles(int inConflict) {
        ReviewForge forge = new ReviewForge();
        for (int file = 0; file < 4; file++) {
            House.fill(forge, file, 1);
        }
        forge.open(0);
        forge.take(2);
        for (int file = 0; file < 4; file++) {
            House.fill(forge, file, 50, file == inConflict ? 2 : 1);
        }
        forge.open(0);
        forge.take(0);
        for (int file = 0; file < 4; file++) {
            House.fill(forge, file, file == inConflict ? 3 : 1, 60);
        }
        forge.upload(0, 0);
        try {
            forge.rebase(0, 1);
        } catch (IllegalStateException conflict) {
            return "conflict";
        }
        StringBuilder text = new StringBuilder();
        for (int file = 0; file < 4; file++) {
            text.append(file == 0 ? "" : ",").append(House.lines(forge, House.current(forge, 1), file));
        }
        return text.toString();
    }
}
