/** Each promise of the document: ordinary inputs, the edges that it names, wrong inputs. */
public final class PromisesTest {
    private static final int NONE = BreakingDisk.NONE;
    private static final int MAX = Integer.MAX_VALUE;
    private static final int MIN = Integer.MIN_VALUE;
    private static final Check check = new Check();

    public static void main(String[] args) {
        promise1NewObject();
        promise2Put();
        promise2PutFillsTheTape();
        promise3Path();
        promise3PathTooLong();
        promise4Write();
        promise4WriteOfWrongNames();
        promise4WriteOfSixtyFiles();
        promise4WriteOfTwoHundredOperations();
        promise5Rename();
        promise5RenameOverAnother();
        promise5RenameToItself();
        promise5RenameRefused();
        promise6Delete();
        promise6DeleteRefused();
        promise7Sync();
        promise8BreakOff();
        promise8BreakOffOfEachSort();
        promise8BreakOffLeavesTapePathAndList();
        promise8BreakOffAtTheLimits();
        promise9Size();
        promise10At();
        promise11ListInOrder();
        promise11ListOfSorts();
        promise12Listed();
        promise13Count();
        check.end("PromisesTest");
    }

    private static void promise1NewObject() {
        Driver d = new Driver();
        check.due("NONE", -1, () -> NONE);
        for (int what = 0; what <= 10; what++) {
            int w = what;
            check.due("new: count(" + w + ")", 0, () -> d.disk.count(w));
        }
        check.due("new: nothing is listed", NONE, () -> d.disk.listed(0, NONE));
        check.due("new: list", 0, () -> d.disk.list(0));
        check.due("new: size", NONE, () -> d.disk.size(0, 0));
        check.due("new: sync", 0, () -> d.disk.sync());
        check.due("new: path of the empty tape", 0, () -> d.disk.path());
        Driver e = new Driver().file(2, 3, "x");
        e.disk.list(2);
        check.due("new: the PATH is empty", "3:", () -> e.told());
        check.due("new: one object knows nothing of another", 0, () -> d.disk.count(7));
    }

    private static void promise2Put() {
        Driver d = new Driver();
        check.due("put 3 of 8", true, () -> d.disk.put(0x1122334455667788L, 3));
        check.due("put 0", true, () -> d.disk.put(-1L, 0));
        check.due("put 8", true, () -> d.disk.put(0xFF00807F01FE2F30L, 8));
        check.due("put 1 below 0", true, () -> d.disk.put(-2L, 1));
        check.due("put -1", false, () -> d.disk.put(5L, -1));
        check.due("put 9", false, () -> d.disk.put(5L, 9));
        check.due("put MIN", false, () -> d.disk.put(5L, MIN));
        check.due("put MAX", false, () -> d.disk.put(5L, MAX));
        check.due("tape", 12, () -> d.disk.count(9));
        d.disk.write(0, 0);
        check.due("put: the highest first", "\u0066\u0077\u0088\u00FF\u0000\u0080\u007F\u0001\u00FE\u002F\u0030\u00FE",
                () -> d.content(0, 0));
    }

    private static void promise2PutFillsTheTape() {
        Driver d = new Driver();
        d.text("x".repeat(396));
        check.due("put over 400", false, () -> d.disk.put(0L, 5));
        check.due("put over 400 adds none", 396, () -> d.disk.count(9));
        check.due("put up to 400", true, () -> d.disk.put(0x61626364L, 4));
        check.due("put at 400", false, () -> d.disk.put(0L, 1));
        check.due("put 0 at 400", true, () -> d.disk.put(0L, 0));
        check.due("put -1 at 400", false, () -> d.disk.put(0L, -1));
        check.due("the full tape", 400, () -> d.disk.count(9));
        d.disk.write(0, 0);
        check.due("a file of 400", "x".repeat(396) + "abcd", () -> d.content(0, 0));
    }

    private static void promise3Path() {
        Driver d = new Driver().text("abc");
        check.due("path", 3, () -> d.disk.path());
        check.due("path empties the tape", 0, () -> d.disk.count(9));
        d.file(0, 0, "1");
        check.due("path again is empty", 0, () -> d.disk.path());
        check.due("path: another PATH, another file", NONE, () -> d.disk.size(0, 0));
        d.path("abd");
        check.due("path: same length, another file", NONE, () -> d.disk.size(0, 0));
        d.path("ab");
        check.due("path: its first part", NONE, () -> d.disk.size(0, 0));
        d.path("abc");
        check.due("path: the same PATH", 1, () -> d.disk.size(0, 0));
        check.due("path is no operation", 1, () -> d.disk.count(10));
    }

    private static void promise3PathTooLong() {
        Driver d = new Driver().path("p").file(0, 0, "mine").text("y".repeat(101));
        check.due("path of 101", Driver.WRONG_ARGUMENT, () -> d.disk.path());
        check.due("path of 101: the tape stays", 101, () -> d.disk.count(9));
        check.due("path of 101: the PATH stays", "mine", () -> d.content(0, 0));
        d.disk.write(1, 0);
        check.due("path of 101: the bytes stay", "y".repeat(101), () -> d.content(1, 0));
        d.text("z".repeat(100));
        check.due("path of 100", 100, () -> d.disk.path());
        d.file(3, 1, "");
        d.disk.list(3);
        check.due("path of 100 is whole", "1:" + "z".repeat(100), () -> d.told());
    }

    private static void promise4Write() {
        Driver d = new Driver().path("f").text("one");
        check.due("write", "done", () -> d.write(0, 0));
        check.due("write empties the tape", 0, () -> d.disk.count(9));
        check.due("write: content", "one", () -> d.content(0, 0));
        d.file(0, 0, "longer");
        check.due("write again: content", "longer", () -> d.content(0, 0));
        check.due("write again: one file", 1, () -> d.disk.count(7));
        check.due("write the empty tape", "done", () -> d.write(0, 0));
        check.due("write the empty tape: content", "", () -> d.content(0, 0));
        d.file(0, 1, "t").file(1, 0, "s").file(6, MAX, "e");
        check.due("write: TIMEs are apart", "t", () -> d.content(0, 1));
        check.due("write: SORTs are apart", "s", () -> d.content(1, 0));
        check.due("write: the edges", "e", () -> d.content(6, MAX));
        check.due("write: four files", 4, () -> d.disk.count(7));
        check.due("write counts", 6, () -> d.disk.count(8));
        d.text("later");
        check.due("a file stays while the tape changes", "e", () -> d.content(6, MAX));
    }

    private static void promise4WriteOfWrongNames() {
        Driver d = new Driver().text("abc");
        check.due("write sort 7", Driver.WRONG_INDEX, () -> d.write(7, 0));
        check.due("write sort -1", Driver.WRONG_INDEX, () -> d.write(-1, 0));
        check.due("write sort MIN", Driver.WRONG_INDEX, () -> d.write(MIN, 0));
        check.due("write sort MAX", Driver.WRONG_INDEX, () -> d.write(MAX, 0));
        check.due("write time -1", Driver.WRONG_INDEX, () -> d.write(0, -1));
        check.due("write time MIN", Driver.WRONG_INDEX, () -> d.write(0, MIN));
        check.due("write refused: the tape stays", 3, () -> d.disk.count(9));
        check.due("write refused: no file", 0, () -> d.disk.count(7));
        check.due("write refused: no operation", 0, () -> d.disk.count(10));
    }

    private static void promise4WriteOfSixtyFiles() {
        Driver d = Driver.ofFiles(60);
        check.due("sixty files", 60, () -> d.disk.count(7));
        d.text("new");
        check.due("the 61st", Driver.WRONG_STATE, () -> d.write(0, 60));
        check.due("the 61st: the tape stays", 3, () -> d.disk.count(9));
        check.due("the 61st: no operation", 60, () -> d.disk.count(10));
        check.due("the 61st of a wrong SORT", Driver.WRONG_INDEX, () -> d.write(7, 60));
        check.due("one of the sixty", "done", () -> d.write(3, 59));
        check.due("one of the sixty: content", "new", () -> d.content(3, 59));
        check.due("rename among sixty", "done", () -> d.rename(3, 59, 3, 0));
        check.due("rename among sixty: content", "new", () -> d.content(3, 0));
        check.due("rename among sixty: count", 60, () -> d.disk.count(7));
        check.due("rename over one of sixty", "done", () -> d.rename(3, 0, 0, 0));
        check.due("rename over one of sixty: count", 59, () -> d.disk.count(7));
        check.due("then there is room", "done", () -> d.write(0, 60));
        check.due("then there is none", Driver.WRONG_STATE, () -> d.write(0, 61));
        d.disk.breakOff(0);
        check.due("broken off: room again", "done", () -> d.write(0, 61));
    }

    private static void promise4WriteOfTwoHundredOperations() {
        Driver d = Driver.ofOperations(199);
        check.due("the 200th write", "done", () -> d.write(0, 5));
        d.text("kept");
        check.due("the 201st write", Driver.WRONG_STATE, () -> d.write(0, 5));
        check.due("the 201st write of a wrong TIME", Driver.WRONG_INDEX, () -> d.write(0, -1));
        check.due("the 201st write: the tape stays", 4, () -> d.disk.count(9));
        check.due("the 201st write: content", "", () -> d.content(0, 5));
        check.due("the 201st write: since", 200, () -> d.disk.count(8));
        check.due("the 201st write: all", 200, () -> d.disk.count(10));
        check.due("sync of 200", 200, () -> d.disk.sync());
        check.due("behind the sync", "done", () -> d.write(0, 5));
        check.due("behind the sync: content", "kept", () -> d.content(0, 5));
    }

    private static void promise5Rename() {
        Driver d = new Driver().path("a/b").file(0, 4, "body");
        check.due("rename", "done", () -> d.rename(0, 4, 6, 9));
        check.due("rename: the old name", null, () -> d.content(0, 4));
        check.due("rename: the new name", "body", () -> d.content(6, 9));
        check.due("rename: of the old SORT", 0, () -> d.disk.count(0));
        check.due("rename: of the new SORT", 1, () -> d.disk.count(6));
        d.disk.list(6);
        check.due("rename: the same PATH", "9:a/b", () -> d.told());
        check.due("rename of the TIME alone", "done", () -> d.rename(6, 9, 6, MAX));
        check.due("rename of the TIME alone: content", "body", () -> d.content(6, MAX));
        check.due("rename of the SORT alone", "done", () -> d.rename(6, MAX, 0, MAX));
        check.due("rename of the SORT alone: content", "body", () -> d.content(0, MAX));
        check.due("rename counts", 4, () -> d.disk.count(8));
        d.text("tape").rename(0, MAX, 0, 0);
        check.due("rename leaves the tape", 4, () -> d.disk.count(9));
        d.disk.write(5, 5);
        d.path("other");
        check.due("rename by another PATH", Driver.WRONG_ARGUMENT, () -> d.rename(0, 0, 1, 1));
    }

    private static void promise5RenameOverAnother() {
        Driver d = new Driver().path("q").file(2, 2, "other PATH").path("p").file(0, 0, "source").file(2, 2, "goes");
        check.due("rename over another", "done", () -> d.rename(0, 0, 2, 2));
        check.due("rename over another: content", "source", () -> d.content(2, 2));
        check.due("rename over another: files", 2, () -> d.disk.count(7));
        d.path("q");
        check.due("rename over another: not of another PATH", "other PATH", () -> d.content(2, 2));
    }

    private static void promise5RenameToItself() {
        Driver d = new Driver().path("p").file(1, 1, "self");
        check.due("rename to itself", "done", () -> d.rename(1, 1, 1, 1));
        check.due("rename to itself: content", "self", () -> d.content(1, 1));
        check.due("rename to itself: files", 1, () -> d.disk.count(7));
        check.due("rename to itself counts", 2, () -> d.disk.count(8));
    }

    private static void promise5RenameRefused() {
        Driver d = new Driver().file(0, 0, "x");
        int[][] wrongs = {{7, 0, 0, 0}, {-1, 0, 0, 0}, {0, -1, 0, 0}, {0, 0, 7, 0}, {0, 0, -1, 0}, {0, 0, 0, -1},
            {0, 0, 0, MIN}, {5, 5, 7, 0}, {5, 5, 0, -1}, {MIN, 0, MAX, 0}};
        for (int[] w : wrongs) {
            check.due("rename " + w[0] + " " + w[1] + " " + w[2] + " " + w[3], Driver.WRONG_INDEX,
                    () -> d.rename(w[0], w[1], w[2], w[3]));
        }
        check.due("rename of none", Driver.WRONG_ARGUMENT, () -> d.rename(0, 1, 0, 0));
        check.due("rename of none to itself", Driver.WRONG_ARGUMENT, () -> d.rename(1, 0, 1, 0));
        check.due("rename refused: content", "x", () -> d.content(0, 0));
        check.due("rename refused: no operation", 1, () -> d.disk.count(10));
        Driver e = Driver.ofOperations(199);
        check.due("the 200th rename", "done", () -> e.rename(0, 0, 0, 9));
        check.due("the 201st rename", Driver.WRONG_STATE, () -> e.rename(0, 9, 0, 8));
        check.due("the 201st rename to itself", Driver.WRONG_STATE, () -> e.rename(0, 9, 0, 9));
        check.due("the 201st rename of none", Driver.WRONG_ARGUMENT, () -> e.rename(0, 8, 0, 9));
        check.due("the 201st rename of a wrong SORT", Driver.WRONG_INDEX, () -> e.rename(0, 9, 7, 9));
        check.due("the 201st rename: content", "", () -> e.content(0, 9));
        check.due("the 201st rename: all", 200, () -> e.disk.count(10));
    }

    private static void promise6Delete() {
        Driver d = new Driver().path("q").file(0, 0, "q").path("p").file(0, 0, "a").file(0, 1, "b").file(1, 0, "c");
        d.text("tape");
        check.due("delete", "done", () -> d.delete(0, 0));
        check.due("delete: it", null, () -> d.content(0, 0));
        check.due("delete: another TIME", "b", () -> d.content(0, 1));
        check.due("delete: another SORT", "c", () -> d.content(1, 0));
        check.due("delete: files", 3, () -> d.disk.count(7));
        check.due("delete counts", 5, () -> d.disk.count(8));
        check.due("delete leaves the tape", 4, () -> d.disk.count(9));
        check.due("delete again", Driver.WRONG_ARGUMENT, () -> d.delete(0, 0));
        d.disk.write(5, 0);
        d.path("q");
        check.due("delete: another PATH", "q", () -> d.content(0, 0));
    }

    private static void promise6DeleteRefused() {
        Driver d = new Driver().file(0, 0, "x");
        check.due("delete sort 7", Driver.WRONG_INDEX, () -> d.delete(7, 0));
        check.due("delete sort -1", Driver.WRONG_INDEX, () -> d.delete(-1, 0));
        check.due("delete time -1", Driver.WRONG_INDEX, () -> d.delete(0, -1));
        check.due("delete time MIN", Driver.WRONG_INDEX, () -> d.delete(0, MIN));
        check.due("delete of none", Driver.WRONG_ARGUMENT, () -> d.delete(6, MAX));
        check.due("delete refused: no operation", 1, () -> d.disk.count(10));
        Driver e = Driver.ofOperations(199);
        check.due("the 200th delete", "done", () -> e.delete(0, 0));
        check.due("the 201st delete", Driver.WRONG_STATE, () -> e.delete(0, 1));
        check.due("the 201st delete of none", Driver.WRONG_ARGUMENT, () -> e.delete(0, 0));
        check.due("the 201st delete of a wrong SORT", Driver.WRONG_INDEX, () -> e.delete(-1, 0));
        check.due("the 201st delete: content", "", () -> e.content(0, 1));
    }

    private static void promise7Sync() {
        Driver d = new Driver().path("p").file(0, 0, "a").file(0, 1, "b");
        check.due("sync since the beginning", 2, () -> d.disk.sync());
        check.due("sync again", 0, () -> d.disk.sync());
        d.file(0, 2, "c").delete(0, 1);
        d.rename(0, 0, 1, 0);
        check.due("sync since the one before", 3, () -> d.disk.sync());
        check.due("sync: since", 0, () -> d.disk.count(8));
        d.file(0, 3, "d").file(0, 2, "lost").text("tape");
        check.due("broken off behind it", 1, () -> d.disk.breakOff(1));
        check.due("sync since it broke off", 0, () -> d.disk.sync());
        d.disk.breakOff(0);
        check.due("what was synced stays: a write", "c", () -> d.content(0, 2));
        check.due("what was synced stays: a delete", null, () -> d.content(0, 1));
        check.due("what was synced stays: a rename", "a", () -> d.content(1, 0));
        check.due("what stayed is synced", "d", () -> d.content(0, 3));
        check.due("sync leaves the tape", 4, () -> d.disk.count(9));
        check.due("all operations", 11, () -> d.disk.count(10));
    }

    private static Driver fourOperations() {
        Driver d = new Driver().path("p").file(0, 0, "old");
        d.disk.sync();
        d.file(0, 0, "first").rename(0, 0, 1, 5);
        return d.file(0, 0, "third").file(1, 5, "fourth");
    }

    private static void promise8BreakOff() {
        String[] zeros = {"old", "first", null, "third", "third", "third", "third"};
        String[] ones = {null, null, "first", "first", "fourth", "fourth", "fourth"};
        int[] firsts = {0, 1, 2, 3, 4, 5, MAX};
        for (int i = 0; i < firsts.length; i++) {
            Driver d = fourOperations();
            int n = firsts[i];
            check.due("breakOff " + n, Math.min(n, 4), () -> d.disk.breakOff(n));
            check.due("breakOff " + n + ": (0, 0)", zeros[i], () -> d.content(0, 0));
            check.due("breakOff " + n + ": (1, 5)", ones[i], () -> d.content(1, 5));
            check.due("breakOff " + n + ": since", 0, () -> d.disk.count(8));
            check.due("breakOff " + n + ": all", 6, () -> d.disk.count(10));
            check.due("breakOff " + n + ": again", 0, () -> d.disk.breakOff(MAX));
            check.due("breakOff " + n + ": (0, 0) again", zeros[i], () -> d.content(0, 0));
            check.due("breakOff " + n + ": (1, 5) again", ones[i], () -> d.content(1, 5));
        }
        Driver d = fourOperations();
        check.due("breakOff -1", Driver.WRONG_ARGUMENT, () -> d.disk.breakOff(-1));
        check.due("breakOff MIN", Driver.WRONG_ARGUMENT, () -> d.disk.breakOff(MIN));
        check.due("breakOff refused: since", 4, () -> d.disk.count(8));
        check.due("breakOff refused: content", "fourth", () -> d.content(1, 5));
    }

    private static void promise8BreakOffOfEachSort() {
        Driver d = new Driver().path("p").file(0, 0, "a").file(1, 0, "b").file(2, 0, "c");
        d.disk.sync();
        d.delete(0, 0);
        d.rename(1, 0, 2, 0);
        d.rename(2, 0, 2, 0);
        d.disk.breakOff(0);
        check.due("undone: delete", "a", () -> d.content(0, 0));
        check.due("undone: rename's source", "b", () -> d.content(1, 0));
        check.due("undone: what went", "c", () -> d.content(2, 0));
        check.due("undone: files", 3, () -> d.disk.count(7));
        d.delete(0, 0);
        d.path("other").file(0, 0, "o");
        check.due("the PATH of then counts, not that of now", 1, () -> d.disk.breakOff(1));
        check.due("other is lost", null, () -> d.content(0, 0));
        d.path("p");
        check.due("p is deleted", null, () -> d.content(0, 0));
        check.due("two are left", 2, () -> d.disk.count(7));
    }

    private static void promise8BreakOffLeavesTapePathAndList() {
        Driver d = new Driver().path("p").file(0, 0, "kept");
        d.disk.sync();
        d.file(0, 1, "lost");
        d.disk.list(0);
        d.text("tape");
        d.disk.breakOff(0);
        check.due("breakOff leaves the tape", 4, () -> d.disk.count(9));
        check.due("breakOff leaves the PATH", "kept", () -> d.content(0, 0));
        check.due("breakOff leaves the list", "0:p,1:p", () -> d.told());
    }

    private static void promise8BreakOffAtTheLimits() {
        Driver d = Driver.ofOperations(199);
        d.disk.write(0, 77);
        check.due("breakOff at 200", 199, () -> d.disk.breakOff(199));
        check.due("breakOff at 200: the last is lost", NONE, () -> d.disk.size(0, 77));
        check.due("breakOff at 200: the others stay", 3, () -> d.disk.count(7));
        check.due("goes on as behind a SYNC", "done", () -> d.write(0, 77));
        check.due("goes on as behind a SYNC: since", 1, () -> d.disk.sync());
        Driver e = Driver.ofFiles(60);
        check.due("breakOff at sixty", 60, () -> e.disk.breakOff(60));
        check.due("breakOff at sixty: files", 60, () -> e.disk.count(7));
        check.due("breakOff at sixty: the last", (char) ('A' + 59), () -> e.content(3, 59));
    }

    private static void promise9Size() {
        Driver d = new Driver().path("p").file(3, 4, "12345").file(3, 5, "");
        check.due("size", 5, () -> d.disk.size(3, 4));
        check.due("size 0", 0, () -> d.disk.size(3, 5));
        check.due("size of none", NONE, () -> d.disk.size(3, 6));
        check.due("size: another SORT", NONE, () -> d.disk.size(4, 4));
        check.due("size: no such SORT", NONE, () -> d.disk.size(7, 4));
        check.due("size: SORT -1", NONE, () -> d.disk.size(-1, 4));
        check.due("size: TIME -1", NONE, () -> d.disk.size(3, -1));
        check.due("size: MIN", NONE, () -> d.disk.size(MIN, MIN));
        d.text("x".repeat(400)).write(0, 0);
        check.due("size 400", 400, () -> d.disk.size(0, 0));
        d.path("P");
        check.due("size: another PATH", NONE, () -> d.disk.size(3, 4));
    }

    private static void promise10At() {
        Driver d = new Driver().path("p").file(3, 4, "a\u00FF\u0000\u0080");
        int[] want = {97, 255, 0, 128};
        for (int k = 0; k < 4; k++) {
            int i = k;
            check.due("at " + i, want[i], () -> d.disk.at(3, 4, i));
        }
        check.due("at 4", NONE, () -> d.disk.at(3, 4, 4));
        check.due("at -1", NONE, () -> d.disk.at(3, 4, -1));
        check.due("at MAX", NONE, () -> d.disk.at(3, 4, MAX));
        check.due("at MIN", NONE, () -> d.disk.at(3, 4, MIN));
        check.due("at of none", NONE, () -> d.disk.at(3, 5, 0));
        check.due("at: no such SORT", NONE, () -> d.disk.at(7, 4, 0));
        check.due("at: no such TIME", NONE, () -> d.disk.at(3, -1, 0));
        d.path("");
        check.due("at: another PATH", NONE, () -> d.disk.at(3, 4, 0));
    }

    private static void promise11ListInOrder() {
        String[] inOrder = {"", "/", "//", "/\u0000", "/z", "\u0000", "\u0000/", "\u0000\u0000", " ", ".", "0", "a", "a/",
            "a/b", "a\u0000", "a ", "a.", "a0", "ab", "b", "\u007F", "\u0080", "\u00FF", "\u00FF/", "\u00FF\u00FF"};
        Driver d = new Driver();
        StringBuilder want = new StringBuilder("3:z");
        for (int i = 0; i < inOrder.length; i++) {
            // 7 and 25 have no common divisor, so every path comes once, in a mixed order.
            d.path(inOrder[i * 7 % inOrder.length]).file(4, 9, "");
            want.append(",9:").append(inOrder[i]);
        }
        d.path("").file(4, MAX, "").path("z").file(4, 3, "").path("y").file(5, 9, "");
        want.append(",").append(MAX).append(":");
        check.due("list", inOrder.length + 2, () -> d.disk.list(4));
        check.due("list in order", want, () -> d.told());
    }

    private static void promise11ListOfSorts() {
        Driver d = new Driver().path("p").file(0, 1, "").file(6, 2, "").file(6, 1, "").file(3, 0, "");
        check.due("list 6", 2, () -> d.disk.list(6));
        check.due("list 6: told", "1:p,2:p", () -> d.told());
        for (int sort : new int[] {7, -1, MAX, MIN}) {
            check.due("list " + sort, NONE, () -> d.disk.list(sort));
            check.due("list " + sort + ": what was listed stays", "1:p,2:p", () -> d.told());
        }
        check.due("list 0", 1, () -> d.disk.list(0));
        check.due("list 0: told", "1:p", () -> d.told());
        check.due("list 5", 0, () -> d.disk.list(5));
        check.due("list 5: none is listed", "", () -> d.told());
        check.due("list is no operation", 4, () -> d.disk.count(10));
        Driver e = new Driver();
        for (int time = 59; time >= 0; time--) {
            e.file(2, time, "");
        }
        check.due("list sixty", 60, () -> e.disk.list(2));
        check.due("list sixty: the first", 0, () -> e.disk.listed(0, NONE));
        check.due("list sixty: the last", 59, () -> e.disk.listed(59, NONE));
        check.due("list sixty: no more", NONE, () -> e.disk.listed(60, NONE));
    }

    private static void promise12Listed() {
        Driver d = new Driver().path("a/\u00FF").file(1, 5, "xyz").file(1, 0, "");
        d.disk.list(1);
        check.due("listed TIME", 0, () -> d.disk.listed(0, NONE));
        check.due("listed TIME of the next", 5, () -> d.disk.listed(1, NONE));
        check.due("listed byte 0", 97, () -> d.disk.listed(1, 0));
        check.due("listed byte 1", 47, () -> d.disk.listed(1, 1));
        check.due("listed byte 2", 255, () -> d.disk.listed(1, 2));
        check.due("listed byte 3", NONE, () -> d.disk.listed(1, 3));
        check.due("listed byte -2", NONE, () -> d.disk.listed(1, -2));
        check.due("listed byte MIN", NONE, () -> d.disk.listed(1, MIN));
        check.due("listed byte MAX", NONE, () -> d.disk.listed(1, MAX));
        check.due("listed file 2", NONE, () -> d.disk.listed(2, NONE));
        check.due("listed file 2's byte", NONE, () -> d.disk.listed(2, 0));
        check.due("listed file -1", NONE, () -> d.disk.listed(-1, NONE));
        check.due("listed file MIN", NONE, () -> d.disk.listed(MIN, 0));
        check.due("listed file MAX", NONE, () -> d.disk.listed(MAX, 0));
        d.rename(1, 5, 1, 6);
        d.delete(1, 0);
        d.path("b").file(1, 1, "");
        check.due("listed as it was then", "0:a/\u00FF,5:a/\u00FF", () -> d.told());
        d.disk.list(1);
        check.due("listed as it is now", "1:b,6:a/\u00FF", () -> d.told());
    }

    private static void promise13Count() {
        Driver d = new Driver().path("p");
        for (int sort = 0; sort < 7; sort++) {
            for (int time = 0; time <= sort; time++) {
                d.file(sort, time, "");
            }
        }
        for (int sort = 0; sort < 7; sort++) {
            int s = sort;
            check.due("count " + s, s + 1, () -> d.disk.count(s));
        }
        check.due("count 7", 28, () -> d.disk.count(7));
        check.due("count 8", 28, () -> d.disk.count(8));
        check.due("count 10", 28, () -> d.disk.count(10));
        d.disk.sync();
        check.due("count 8 behind a SYNC", 0, () -> d.disk.count(8));
        check.due("count 10 with the SYNC", 29, () -> d.disk.count(10));
        d.delete(0, 0);
        d.disk.breakOff(0);
        check.due("count 8 broken off", 0, () -> d.disk.count(8));
        check.due("count 10 with the lost", 30, () -> d.disk.count(10));
        d.text("12345");
        check.due("count 9", 5, () -> d.disk.count(9));
        for (int what : new int[] {-1, 11, MAX, MIN}) {
            check.due("count " + what, NONE, () -> d.disk.count(what));
        }
    }
}
