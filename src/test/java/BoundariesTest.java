/** Each sentence of the document that names a boundary case has a test of its own here, at both sides of the boundary. */
public final class BoundariesTest {
    private static final int NONE = BreakingDisk.NONE;
    private static final int MAX = Integer.MAX_VALUE;
    private static final int MIN = Integer.MIN_VALUE;
    private static final int[] NO_SORTS = {-1, 7, 8, MAX, MIN};
    private static final int[] NO_TIMES = {-1, -2, MIN};
    private static final Check check = new Check();

    public static void main(String[] args) {
        terms();
        promise1();
        promise2();
        promise3();
        promise4();
        promise5();
        promise6();
        promise7();
        promise8();
        promise9();
        promise10();
        promise11();
        promise12();
        promise13();
        check.end("BoundariesTest");
    }

    private static void terms() {
        sortsAndTimes();
        paths();
        orderByTimes();
        orderByPaths();
        slashFirst();
        othersAsZeroTo255();
        endsFirst();
        mostBytes();
        mostFiles();
        aheadOfASync();
    }

    private static void sortsAndTimes() {
        check.sentence("Terms: a SORT 0 .. 6, a TIME (0 and above)");
        for (int sort = 0; sort <= 6; sort++) {
            for (int time : new int[] {0, 1, MAX - 1, MAX}) {
                Driver d = new Driver().text("x");
                int s = sort;
                String name = "(" + s + ", " + time + ")";
                check.due("write" + name, "done", () -> d.write(s, time));
                check.due("count" + name, 1, () -> d.disk.count(s));
                check.due("size" + name, 1, () -> d.disk.size(s, time));
                check.due("list" + name, 1, () -> d.disk.list(s));
                check.due("listed" + name, time, () -> d.disk.listed(0, NONE));
                check.due("rename" + name, "done", () -> d.rename(s, time, 6 - s, MAX - time));
                check.due("at behind rename" + name, 120, () -> d.disk.at(6 - s, MAX - time, 0));
                check.due("delete behind rename" + name, "done", () -> d.delete(6 - s, MAX - time));
                check.due("none is left" + name, 0, () -> d.disk.count(7));
            }
        }
    }

    private static void paths() {
        check.sentence("Terms: a PATH of 0 to 100 bytes");
        for (int length : new int[] {0, 1, 99, 100}) {
            String path = "q".repeat(length);
            Driver d = new Driver().path(path).file(3, 8, "x");
            check.due("list", 1, () -> d.disk.list(3));
            check.due("a PATH of " + length, "8:" + path, () -> d.told());
        }
        Driver d = new Driver().path("q".repeat(100)).file(0, 0, "q").path("q".repeat(99) + "r").file(0, 0, "r");
        check.due("the 100th byte tells two PATHS apart", 2, () -> d.disk.count(7));
        d.path("q".repeat(99));
        check.due("99 bytes are another PATH than 100", NONE, () -> d.disk.size(0, 0));
    }

    private static void orderByTimes() {
        check.sentence("Terms: ORDER: by TIMES, then PATHS");
        Driver d = new Driver().path("a").file(1, MAX, "").path("z").file(1, 0, "").file(1, MAX - 1, "");
        d.path("b").file(1, MAX, "").file(1, 0, "").file(1, 10, "").file(1, 9, "");
        check.due("list", 7, () -> d.disk.list(1));
        check.due("told", "0:b,0:z,9:b,10:b," + (MAX - 1) + ":z," + MAX + ":a," + MAX + ":b", () -> d.told());
    }

    /** Writes the PATHS from the last to the first, then in turn, so that the order of writing can't be the ORDER. */
    private static void inOrder(String... paths) {
        Driver backward = new Driver();
        Driver mixed = new Driver();
        StringBuilder want = new StringBuilder();
        for (int i = 0; i < paths.length; i++) {
            backward.path(paths[paths.length - 1 - i]).file(2, 5, "");
            want.append(i == 0 ? "" : ",").append("5:").append(paths[i]);
        }
        for (int i = 1; i < paths.length; i += 2) {
            mixed.path(paths[i]).file(2, 5, "");
        }
        for (int i = 0; i < paths.length; i += 2) {
            mixed.path(paths[i]).file(2, 5, "");
        }
        backward.disk.list(2);
        mixed.disk.list(2);
        check.due("written backward", want, () -> backward.told());
        check.due("written mixed", want, () -> mixed.told());
    }

    private static void orderByPaths() {
        check.sentence("Terms: ORDER: .. PATHS: byte by byte");
        inOrder("aaz", "aba", "abb", "b");
        inOrder("p".repeat(98) + "ab", "p".repeat(98) + "ba", "p".repeat(98) + "bb");
    }

    private static void slashFirst() {
        check.sentence("Terms: ORDER: .. 47 (/) ahead of all others");
        inOrder("/", "\u0000", "\u0001", ".", "0");
        inOrder("/\u00FF", "\u0000\u0000");
        inOrder("a/", "a\u0000", "a.", "a0", "a\u00FF");
        inOrder("a/z", "a\u0000a");
        inOrder("//", "/\u0000", "\u0000/", "\u0000\u0000");
        inOrder("/", "\u0080", "\u00FF");
    }

    private static void othersAsZeroTo255() {
        check.sentence("Terms: ORDER: .. these as 0 .. 255");
        inOrder("\u0000", "\u0001", "\u002E", "\u0030", "\u007F", "\u0080", "\u0081", "\u00FE", "\u00FF");
        inOrder("\u007F\u00FF", "\u0080\u0000", "\u0080\u007F", "\u0080\u0080");
    }

    private static void endsFirst() {
        check.sentence("Terms: ORDER: .. what is at an end first");
        inOrder("", "/");
        inOrder("", "\u0000");
        inOrder("a", "a/", "a//", "a\u0000");
        inOrder("z".repeat(99), "z".repeat(99) + "/", "z".repeat(100));
    }

    private static void mostBytes() {
        check.sentence("Terms: A FILE has bytes, at most 400");
        Driver d = new Driver().text("b".repeat(399) + "e");
        check.due("write of 400", "done", () -> d.write(0, 0));
        check.due("size of 400", 400, () -> d.disk.size(0, 0));
        check.due("the first", 98, () -> d.disk.at(0, 0, 0));
        check.due("the last", 101, () -> d.disk.at(0, 0, 399));
        check.due("none behind it", NONE, () -> d.disk.at(0, 0, 400));
        d.file(0, 0, "");
        check.due("the smallest", 0, () -> d.disk.size(0, 0));
    }

    private static void mostFiles() {
        check.sentence("Terms: There are at most 60 files");
        Driver d = Driver.ofFiles(59);
        check.due("the 60th", "done", () -> d.write(6, 100));
        check.due("the 61st", Driver.WRONG_STATE, () -> d.write(6, 101));
        check.due("files", 60, () -> d.disk.count(7));
        d.delete(6, 100);
        check.due("one gone, one comes", "done", () -> d.write(6, 101));
        check.due("and no other", Driver.WRONG_STATE, () -> d.write(6, 100));
        d.disk.sync();
        check.due("nor behind a SYNC", Driver.WRONG_STATE, () -> d.write(6, 100));
        d.delete(6, 101);
        d.disk.breakOff(0);
        check.due("nor if what made room is lost", Driver.WRONG_STATE, () -> d.write(6, 100));
    }

    private static void aheadOfASync() {
        check.sentence("Terms: What was done ahead of the latest SYNC stays whatever happens");
        Driver d = new Driver().path("p").file(0, 0, "zero").file(1, 1, "one").file(2, 2, "two");
        d.disk.sync();
        d.file(0, 0, "other").rename(1, 1, 2, 2);
        d.delete(2, 2);
        d.disk.breakOff(0);
        check.due("written over", "zero", () -> d.content(0, 0));
        check.due("renamed away", "one", () -> d.content(1, 1));
        check.due("renamed over and deleted", "two", () -> d.content(2, 2));
        d.disk.breakOff(MAX);
        d.disk.breakOff(0);
        check.due("broken off again and again", 3, () -> d.disk.count(7));
    }

    private static void promise1() {
        check.sentence("Promise 1: No files");
        Driver none = new Driver();
        check.due("seen", "listed ; counts 0 0 0 0 0 0 0 0 0 0 0; SORT 0: ; SORT 1: ; SORT 2: ; SORT 3: ; SORT 4: "
                + "; SORT 5: ; SORT 6: ", () -> none.seen());
        check.due("size", NONE, () -> none.disk.size(0, 0));
        check.due("at", NONE, () -> none.disk.at(0, 0, 0));
        check.due("rename", Driver.WRONG_ARGUMENT, () -> none.rename(0, 0, 0, 0));
        check.due("delete", Driver.WRONG_ARGUMENT, () -> none.delete(0, 0));

        check.sentence("Promise 1: tape and PATH are empty");
        Driver d = new Driver();
        check.due("the tape is a file of no bytes", "done", () -> d.write(0, 0));
        check.due("size", 0, () -> d.disk.size(0, 0));
        check.due("the empty tape as PATH is the same PATH", 0, () -> d.disk.path());
        check.due("size by it", 0, () -> d.disk.size(0, 0));
        check.due("list", 1, () -> d.disk.list(0));
        check.due("told", "0:", () -> d.told());
    }

    private static void promise2() {
        putOfNoneToEight();
        putOfTooFewOrTooMany();
        putUpTo400();
        putOver400();
    }

    private static void putOfNoneToEight() {
        check.sentence("Promise 2: The lowest n bytes of v, the highest of them first, come to the tape: true");
        String bytes = "\u0080\u0001\u00FF\u0000\u007F\u002F\u00FE\u0090";
        for (int length = 0; length <= 8; length++) {
            int n = length;
            Driver d = new Driver();
            check.due("put " + n, true, () -> d.disk.put(0x8001FF007F2FFE90L, n));
            check.due("tape of " + n, n, () -> d.disk.count(9));
            d.write(0, 0);
            check.due("bytes of " + n, bytes.substring(8 - n), () -> d.content(0, 0));
        }
        for (long v : new long[] {Long.MIN_VALUE, Long.MAX_VALUE, -1L, 0L}) {
            Driver d = new Driver();
            check.due("put of " + v, true, () -> d.disk.put(v, 8));
            d.write(0, 0);
            for (int k = 0; k < 8; k++) {
                int i = k;
                long want = v >> 56 - 8 * i & 255;
                check.due("byte " + i + " of " + v, want, () -> d.disk.at(0, 0, i));
            }
        }
    }

    private static void putOfTooFewOrTooMany() {
        check.sentence("Promise 2: false, and none come, if n is not 0 .. 8");
        for (int n : new int[] {-1, -8, 9, 16, 256, MAX, MIN, MIN + 8}) {
            Driver d = new Driver().text("ab");
            check.due("put " + n, false, () -> d.disk.put(-1L, n));
            check.due("tape", 2, () -> d.disk.count(9));
            d.text("c").write(0, 0);
            check.due("bytes", "abc", () -> d.content(0, 0));
        }
    }

    private static void putUpTo400() {
        check.sentence("Promise 2: (up to 400 bytes come to the tape)");
        for (int n = 0; n <= 8; n++) {
            int last = n;
            Driver d = new Driver().text("t".repeat(400 - last));
            check.due("put the last " + last, true, () -> d.disk.put(0x3132333435363738L, last));
            check.due("tape of the last " + last, 400, () -> d.disk.count(9));
            d.write(0, 0);
            for (int k = 0; k < last; k++) {
                int i = k;
                check.due("byte " + i + " of the last " + last, 0x39 - last + i, () -> d.disk.at(0, 0, 400 - last + i));
            }
        }
    }

    private static void putOver400() {
        check.sentence("Promise 2: false, and none come, .. or it would have more than 400");
        for (int n = 1; n <= 8; n++) {
            int over = n;
            Driver d = new Driver().text("t".repeat(401 - over));
            check.due("put " + over + " over", false, () -> d.disk.put(0L, over));
            check.due("none came", 401 - over, () -> d.disk.count(9));
            check.due("put one fewer", true, () -> d.disk.put(-1L, over - 1));
            check.due("the full tape", 400, () -> d.disk.count(9));
            check.due("put one more", false, () -> d.disk.put(0L, 1));
            check.due("put none", true, () -> d.disk.put(0L, 0));
            check.due("still 400", 400, () -> d.disk.count(9));
        }
    }

    private static void promise3() {
        check.sentence("Promise 3: The tape, which is empty then, is the PATH for what follows: its length");
        for (int length : new int[] {0, 1, 99, 100}) {
            Driver d = new Driver().path("before").text("w".repeat(length));
            check.due("path of " + length, length, () -> d.disk.path());
            check.due("the tape is empty", 0, () -> d.disk.count(9));
            d.text("x".repeat(100)).file(5, 0, "x".repeat(300)).write(5, 1);
            check.due("list", 2, () -> d.disk.list(5));
            check.due("the PATH for all that follows", "0:" + "w".repeat(length) + ",1:" + "w".repeat(length),
                    () -> d.told());
        }

        check.sentence("Promise 3: IllegalArgumentException: it has more than 100 bytes (it stays)");
        for (int length : new int[] {101, 102, 256, 400}) {
            Driver d = new Driver().path("before").text("w".repeat(length - 1) + "!");
            check.due("path of " + length, Driver.WRONG_ARGUMENT, () -> d.disk.path());
            check.due("again", Driver.WRONG_ARGUMENT, () -> d.disk.path());
            check.due("the tape stays", length, () -> d.disk.count(9));
            d.write(5, 0);
            check.due("its bytes stay", 33, () -> d.disk.at(5, 0, length - 1));
            check.due("all of them", length, () -> d.disk.size(5, 0));
            d.disk.list(5);
            check.due("the PATH stays", "0:before", () -> d.told());
        }
    }

    private static void promise4() {
        writeTheTape();
        writeOverAFile();
        writeOfNoSuchName();
        writeOfThe61st();
        writeOfThe201st();
    }

    private static void writeTheTape() {
        check.sentence("Promise 4: the file .. has the tape's bytes (which is empty then)");
        for (int length : new int[] {0, 1, 399, 400}) {
            Driver d = new Driver().text("w".repeat(length));
            check.due("write of " + length, "done", () -> d.write(0, 0));
            check.due("size of " + length, length, () -> d.disk.size(0, 0));
            check.due("the tape is empty", 0, () -> d.disk.count(9));
            d.text("v".repeat(400)).write(0, 1);
            check.due("its first byte", length == 0 ? NONE : 119, () -> d.disk.at(0, 0, 0));
            check.due("its last byte", length == 0 ? NONE : 119, () -> d.disk.at(0, 0, length - 1));
        }
    }

    private static void writeOverAFile() {
        check.sentence("Promise 4: a file of that name goes");
        Driver d = new Driver().path("p").file(0, 0, "a longer one").file(0, 0, "short");
        check.due("a shorter one", "short", () -> d.content(0, 0));
        d.file(0, 0, "");
        check.due("an empty one", "", () -> d.content(0, 0));
        d.file(0, 0, "long again");
        check.due("a longer one", "long again", () -> d.content(0, 0));
        check.due("files", 1, () -> d.disk.count(7));
        check.due("operations", 4, () -> d.disk.count(8));
    }

    private static void writeOfNoSuchName() {
        check.sentence("Promise 4: IndexOutOfBoundsException: no such SORT or TIME (the tape stays)");
        for (int sort : NO_SORTS) {
            refused("write(" + sort + ", 0)", Driver.WRONG_INDEX, d -> d.write(sort, 0));
            refused("write(" + sort + ", -1)", Driver.WRONG_INDEX, d -> d.write(sort, -1));
        }
        for (int time : NO_TIMES) {
            refused("write(0, " + time + ")", Driver.WRONG_INDEX, d -> d.write(0, time));
            refused("write(6, " + time + ")", Driver.WRONG_INDEX, d -> d.write(6, time));
        }
    }

    private static void writeOfThe61st() {
        check.sentence("Promise 4: IllegalStateException: it is not there and there are 60 (the tape stays)");
        Driver d = Driver.ofFiles(60).text("stay");
        String before = Driver.ofFiles(60).text("stay").seen();
        check.due("another TIME", Driver.WRONG_STATE, () -> d.write(0, 1));
        check.due("another SORT", Driver.WRONG_STATE, () -> d.write(1, 0));
        check.due("no such SORT", Driver.WRONG_INDEX, () -> d.write(7, 0));
        check.due("no such TIME", Driver.WRONG_INDEX, () -> d.write(0, -1));
        check.due("all is as before", before, () -> d.seen());
        Driver other = Driver.ofFiles(60).path("other").text("stay");
        check.due("another PATH", Driver.WRONG_STATE, () -> other.write(0, 0));
        check.due("the tape's length stays", 4, () -> other.disk.count(9));
        other.disk.breakOff(0);
        check.due("the tape's bytes and the PATH stay", "5:other stay", () -> other.tapeAndPath());
        Driver there = Driver.ofFiles(60).text("new");
        check.due("the first, which is there", "done", () -> there.write(0, 0));
        check.due("the first has the bytes", "new", () -> there.content(0, 0));
        check.due("the last, which is there", "done", () -> there.write(3, 59));
        check.due("the last has none", "", () -> there.content(3, 59));
        check.due("files", 60, () -> there.disk.count(7));
        check.due("operations", 62, () -> there.disk.count(8));
    }

    private static void writeOfThe201st() {
        check.sentence("Promise 4: IllegalStateException: .. or 200 operations were done since the latest SYNC (the tape stays)");
        Driver d = Driver.ofOperations(199).text("200th");
        check.due("the 200th", "done", () -> d.write(0, 9));
        d.text("stay");
        check.due("the 201st, of a new name", Driver.WRONG_STATE, () -> d.write(0, 10));
        check.due("the 201st, over a file", Driver.WRONG_STATE, () -> d.write(0, 9));
        check.due("no such SORT", Driver.WRONG_INDEX, () -> d.write(-1, 9));
        check.due("no such TIME", Driver.WRONG_INDEX, () -> d.write(0, MIN));
        check.due("the file stays", "200th", () -> d.content(0, 9));
        check.due("files", 4, () -> d.disk.count(7));
        check.due("since the SYNC", 200, () -> d.disk.count(8));
        check.due("the tape's length stays", 4, () -> d.disk.count(9));
        check.due("all operations", 200, () -> d.disk.count(10));
        check.due("sync", 200, () -> d.disk.sync());
        check.due("behind a SYNC the tape's bytes are there", "5:p stay", () -> d.tapeAndPath());
        both60And200();
        aSyncBetweenAndRefusedCallsDoNotCount();
    }

    private static void both60And200() {
        Driver d = Driver.ofFiles(60);
        for (int i = 60; i < 200; i++) {
            d.write(0, 0);
        }
        check.due("200 operations, 60 files, not there", Driver.WRONG_STATE, () -> d.write(0, 1));
        check.due("200 operations, 60 files, there", Driver.WRONG_STATE, () -> d.write(0, 0));
        d.disk.sync();
        check.due("60 files, not there", Driver.WRONG_STATE, () -> d.write(0, 1));
        check.due("60 files, there", "done", () -> d.write(0, 0));
    }

    private static void aSyncBetweenAndRefusedCallsDoNotCount() {
        Driver d = Driver.ofOperations(100);
        d.disk.sync();
        for (int i = 0; i < 199; i++) {
            d.write(1, 0);
        }
        check.due("refused", Driver.WRONG_INDEX, () -> d.write(7, 0));
        check.due("refused", Driver.WRONG_ARGUMENT, () -> d.delete(6, 6));
        check.due("the 200th since the SYNC", "done", () -> d.write(1, 1));
        check.due("the 201st since the SYNC", Driver.WRONG_STATE, () -> d.write(1, 2));
    }

    private static void promise5() {
        renameToItself();
        renameOverAnother();
        renameOfNoSuchName();
        renameOfNone();
        renameOfThe201st();
    }

    private static void renameToItself() {
        check.sentence("Promise 5: a file of that name goes, but for itself");
        Driver d = new Driver().path("p").file(4, 4, "itself").file(4, 5, "next");
        check.due("rename to itself", "done", () -> d.rename(4, 4, 4, 4));
        check.due("it is there", "itself", () -> d.content(4, 4));
        check.due("files", 2, () -> d.disk.count(7));
        check.due("it is an operation", 3, () -> d.disk.count(8));
        d.disk.sync();
        d.rename(4, 4, 4, 4);
        check.due("it stays if it breaks off", 1, () -> d.disk.breakOff(1));
        check.due("it is there then", "itself", () -> d.content(4, 4));
        Driver full = Driver.ofFiles(60);
        check.due("of 60 files to itself", "done", () -> full.rename(3, 59, 3, 59));
        check.due("60 are there", 60, () -> full.disk.count(7));
    }

    private static void renameOverAnother() {
        check.sentence("Promise 5: (the same PATH); a file of that name goes");
        Driver d = new Driver().path("q").file(6, MAX, "q").path("p").file(0, 0, "p").file(6, MAX, "goes");
        check.due("rename", "done", () -> d.rename(0, 0, 6, MAX));
        check.due("it is there", "p", () -> d.content(6, MAX));
        check.due("its old name is not", null, () -> d.content(0, 0));
        check.due("files", 2, () -> d.disk.count(7));
        d.path("q");
        check.due("the one of another PATH is there", "q", () -> d.content(6, MAX));
        Driver full = Driver.ofFiles(60);
        check.due("of 60 files to a new name", "done", () -> full.rename(0, 0, 6, 100));
        check.due("60 are there", 60, () -> full.disk.count(7));
        check.due("of 60 files over another", "done", () -> full.rename(6, 100, 1, 1));
        check.due("59 are there", 59, () -> full.disk.count(7));
        check.due("the one is there", "A", () -> full.content(1, 1));
    }

    private static void renameOfNoSuchName() {
        check.sentence("Promise 5: IndexOutOfBoundsException: no such SORTs or TIMEs");
        for (int sort : NO_SORTS) {
            refused("rename from SORT " + sort, Driver.WRONG_INDEX, d -> d.rename(sort, 0, 0, 0));
            refused("rename to SORT " + sort, Driver.WRONG_INDEX, d -> d.rename(0, 0, sort, 0));
            refused("rename of none to SORT " + sort, Driver.WRONG_INDEX, d -> d.rename(3, 3, sort, 0));
        }
        for (int time : NO_TIMES) {
            refused("rename from TIME " + time, Driver.WRONG_INDEX, d -> d.rename(0, time, 0, 0));
            refused("rename to TIME " + time, Driver.WRONG_INDEX, d -> d.rename(0, 0, 0, time));
            refused("rename of none to TIME " + time, Driver.WRONG_INDEX, d -> d.rename(3, 3, 0, time));
        }
    }

    private static void renameOfNone() {
        check.sentence("Promise 5: IllegalArgumentException: there is none");
        refused("another SORT", Driver.WRONG_ARGUMENT, d -> d.rename(1, 0, 0, 0));
        refused("another TIME", Driver.WRONG_ARGUMENT, d -> d.rename(0, 2, 0, 0));
        refused("one that was deleted", Driver.WRONG_ARGUMENT, d -> d.rename(6, MAX, 6, 0));
        refused("to itself", Driver.WRONG_ARGUMENT, d -> d.rename(6, 0, 6, 0));
        Driver d = new Driver().file(0, 0, "x").path("p");
        check.due("another PATH", Driver.WRONG_ARGUMENT, () -> d.rename(0, 0, 1, 1));
        check.due("no operation", 1, () -> d.disk.count(10));
    }

    private static void renameOfThe201st() {
        check.sentence("Promise 5: IllegalStateException: 200 operations");
        Driver d = Driver.ofOperations(198);
        check.due("the 199th", "done", () -> d.rename(0, 0, 1, 0));
        check.due("the 200th, to itself", "done", () -> d.rename(1, 0, 1, 0));
        check.due("the 201st", Driver.WRONG_STATE, () -> d.rename(1, 0, 2, 0));
        check.due("the 201st to itself", Driver.WRONG_STATE, () -> d.rename(1, 0, 1, 0));
        check.due("the 201st over another", Driver.WRONG_STATE, () -> d.rename(1, 0, 0, 1));
        check.due("the 201st as a WRITE", Driver.WRONG_STATE, () -> d.write(1, 0));
        check.due("none such", Driver.WRONG_ARGUMENT, () -> d.rename(0, 0, 1, 0));
        check.due("no such SORT", Driver.WRONG_INDEX, () -> d.rename(1, 0, 7, 0));
        check.due("no such TIME", Driver.WRONG_INDEX, () -> d.rename(1, 0, 0, -1));
        check.due("it has its name", 0, () -> d.disk.size(1, 0));
        check.due("files", 3, () -> d.disk.count(7));
        check.due("all operations", 200, () -> d.disk.count(10));
        d.disk.sync();
        check.due("behind a SYNC", "done", () -> d.rename(1, 0, 2, 0));
    }

    private static void promise6() {
        check.sentence("Promise 6: IndexOutOfBoundsException: no such SORT or TIME");
        for (int sort : NO_SORTS) {
            refused("delete(" + sort + ", 0)", Driver.WRONG_INDEX, d -> d.delete(sort, 0));
        }
        for (int time : NO_TIMES) {
            refused("delete(0, " + time + ")", Driver.WRONG_INDEX, d -> d.delete(0, time));
        }

        check.sentence("Promise 6: IllegalArgumentException: there is none");
        refused("another SORT", Driver.WRONG_ARGUMENT, d -> d.delete(1, 0));
        refused("another TIME", Driver.WRONG_ARGUMENT, d -> d.delete(0, 2));
        refused("one that was deleted", Driver.WRONG_ARGUMENT, d -> d.delete(6, MAX));
        Driver d = new Driver().file(0, 0, "x").path("p");
        check.due("another PATH", Driver.WRONG_ARGUMENT, () -> d.delete(0, 0));
        check.due("it is there", 1, () -> d.disk.count(7));

        deleteOfThe201st();
        deleteTheFirstAndTheLast();
    }

    private static void deleteOfThe201st() {
        check.sentence("Promise 6: IllegalStateException: 200 operations");
        Driver d = Driver.ofOperations(199);
        check.due("the 200th", "done", () -> d.delete(0, 0));
        check.due("the 201st", Driver.WRONG_STATE, () -> d.delete(0, 1));
        check.due("the 201st as a WRITE", Driver.WRONG_STATE, () -> d.write(0, 1));
        check.due("none such", Driver.WRONG_ARGUMENT, () -> d.delete(0, 0));
        check.due("no such SORT", Driver.WRONG_INDEX, () -> d.delete(7, 1));
        check.due("no such TIME", Driver.WRONG_INDEX, () -> d.delete(0, -1));
        check.due("files", 2, () -> d.disk.count(7));
        check.due("all operations", 200, () -> d.disk.count(10));
        d.disk.breakOff(200);
        check.due("behind a break-off", "done", () -> d.delete(0, 1));
    }

    private static void deleteTheFirstAndTheLast() {
        check.sentence("Promise 6: DELETE (down to none)");
        Driver d = Driver.ofFiles(60);
        check.due("the first in ORDER", "done", () -> d.delete(0, 0));
        check.due("the last in ORDER", "done", () -> d.delete(6, 55));
        check.due("one between", "done", () -> d.delete(3, 31));
        check.due("files", 57, () -> d.disk.count(7));
        for (int time = 1; time < 60; time++) {
            int t = time;
            if (t != 55 && t != 31) {
                check.due("delete " + t, "done", () -> d.delete(t % 7, t));
            }
        }
        check.due("none is left", 0, () -> d.disk.count(7));
        check.due("none is there", Driver.WRONG_ARGUMENT, () -> d.delete(3, 59));
        check.due("operations", 120, () -> d.disk.count(8));
        check.due("a file comes again", "done", () -> d.write(3, 59));
    }

    private static void promise7() {
        check.sentence("Promise 7: how many operations were done since the one before");
        Driver d = Driver.ofOperations(1);
        check.due("the first", 1, () -> d.disk.sync());
        check.due("none since", 0, () -> d.disk.sync());
        d.rename(0, 0, 1, 0);
        check.due("a RENAME since", 1, () -> d.disk.sync());
        d.delete(1, 0);
        check.due("a DELETE since", 1, () -> d.disk.sync());
        check.due("refused", Driver.WRONG_ARGUMENT, () -> d.delete(1, 0));
        check.due("a refused call since", 0, () -> d.disk.sync());
        check.due("all operations", 8, () -> d.disk.count(10));

        check.sentence("Promise 7: (or since the beginning, ..)");
        for (int operations : new int[] {0, 1, 199, 200}) {
            check.due("of " + operations, operations, () -> Driver.ofOperations(operations).disk.sync());
        }

        check.sentence("Promise 7: (.. or since it broke off)");
        Driver e = Driver.ofOperations(200);
        e.disk.breakOff(120);
        check.due("none since", 0, () -> e.disk.sync());
        e.write(0, 0);
        e.disk.breakOff(1);
        e.write(0, 0);
        e.write(0, 1);
        check.due("two since", 2, () -> e.disk.sync());
        syncKeepsAll();
    }

    private static void syncKeepsAll() {
        check.sentence("Promise 7: that are to stay now");
        Driver d = Driver.ofFiles(60);
        check.due("60 stay", 60, () -> d.disk.sync());
        d.delete(0, 0);
        d.disk.breakOff(0);
        check.due("60 are there", 60, () -> d.disk.count(7));
        check.due("the first", "A", () -> d.content(0, 0));
        check.due("the last", String.valueOf((char) ('A' + 59)), () -> d.content(3, 59));
        Driver none = Driver.ofOperations(3);
        none.disk.sync();
        none.delete(0, 0);
        none.delete(0, 1);
        none.delete(0, 2);
        none.disk.sync();
        none.disk.breakOff(0);
        check.due("none are to stay", 0, () -> none.disk.count(7));
    }

    private static void promise8() {
        breakOffTheFirst();
        breakOffWithoutOperations();
        breakOffAndGoOn();
        check.sentence("Promise 8: IllegalArgumentException: n is below 0");
        for (int n : new int[] {-1, -2, MIN}) {
            refused("breakOff(" + n + ")", Driver.WRONG_ARGUMENT, d -> d.disk.breakOff(n));
        }
    }

    private static void breakOffTheFirst() {
        check.sentence("Promise 8: the first n stay, or all if there are fewer; the others are not done: how many stay");
        for (int operations : new int[] {1, 2, 59, 60}) {
            for (int n : new int[] {0, 1, operations - 1, operations, operations + 1, MAX}) {
                Driver d = Driver.ofFiles(operations);
                int stay = Math.min(n, operations);
                String call = "breakOff(" + n + ") of " + operations;
                check.due(call, stay, () -> d.disk.breakOff(n));
                check.due(call + ": files", stay, () -> d.disk.count(7));
                check.due(call + ": the last that stays", stay == 0 ? NONE : 1,
                        () -> d.disk.size((stay + 6) % 7, stay - 1));
                check.due(call + ": the first that is not done", NONE, () -> d.disk.size(stay % 7, stay));
                check.due(call + ": all operations", operations, () -> d.disk.count(10));
            }
        }
        for (int n : new int[] {0, 1, 199, 200, 201, MAX}) {
            Driver d = Driver.ofOperations(199);
            d.delete(0, 1);
            check.due("breakOff(" + n + ") of 200", Math.min(n, 200), () -> d.disk.breakOff(n));
            int left = n == 0 ? 0 : n == 1 ? 1 : n == 199 ? 3 : 2;
            check.due("breakOff(" + n + ") of 200: files", left, () -> d.disk.count(7));
        }
    }

    private static void breakOffWithoutOperations() {
        check.sentence("Promise 8: .. or all if there are fewer (none)");
        for (int n : new int[] {0, 1, 200, MAX}) {
            Driver fresh = new Driver();
            check.due("of a new object", 0, () -> fresh.disk.breakOff(n));
            check.due("no operation", 0, () -> fresh.disk.count(10));
            Driver synced = Driver.ofFiles(5);
            synced.disk.sync();
            check.due("behind a SYNC", 0, () -> synced.disk.breakOff(n));
            check.due("files behind a SYNC", 5, () -> synced.disk.count(7));
            Driver broken = Driver.ofFiles(5);
            broken.disk.breakOff(3);
            check.due("behind a break-off", 0, () -> broken.disk.breakOff(n));
            check.due("files behind a break-off", 3, () -> broken.disk.count(7));
        }
    }

    private static void breakOffAndGoOn() {
        check.sentence("Promise 8: (It goes on as behind a SYNC.)");
        Driver d = Driver.ofOperations(200);
        check.due("breakOff", 2, () -> d.disk.breakOff(2));
        check.due("none since", 0, () -> d.disk.count(8));
        for (int i = 0; i < 200; i++) {
            check.due("operation " + i + " since", "done", () -> d.write(6, 0));
        }
        check.due("the 201st since", Driver.WRONG_STATE, () -> d.write(6, 0));
        check.due("those since are lost", 0, () -> d.disk.breakOff(0));
        check.due("what stayed is as if synced", 2, () -> d.disk.count(7));
        check.due("the first that stayed", 0, () -> d.disk.size(0, 0));
        check.due("the second that stayed", 0, () -> d.disk.size(0, 1));
        check.due("all operations", 400, () -> d.disk.count(10));
    }

    private static void promise9() {
        check.sentence("Promise 9: NONE if there is none such");
        Driver d = usedDisk();
        check.due("there is one", 4, () -> d.disk.size(0, 0));
        check.due("another TIME", NONE, () -> d.disk.size(0, 2));
        check.due("another SORT", NONE, () -> d.disk.size(1, 0));
        check.due("one that was deleted", NONE, () -> d.disk.size(6, MAX));
        for (int sort : NO_SORTS) {
            check.due("SORT " + sort, NONE, () -> d.disk.size(sort, 0));
        }
        for (int time : NO_TIMES) {
            check.due("TIME " + time, NONE, () -> d.disk.size(0, time));
        }
        check.due("nothing is changed", usedDisk().seen(), () -> d.seen());
        d.disk.path();
        check.due("another PATH", NONE, () -> d.disk.size(0, 0));

        check.sentence("Promise 9: How many bytes the file .. has");
        for (int length : new int[] {0, 1, 127, 128, 255, 256, 399, 400}) {
            check.due("of " + length, length, () -> new Driver().file(0, 0, "s".repeat(length)).disk.size(0, 0));
        }
    }

    private static void promise10() {
        check.sentence("Promise 10: NONE if there is none");
        Driver d = usedDisk();
        check.due("the first", 122, () -> d.disk.at(0, 0, 0));
        check.due("the last", 111, () -> d.disk.at(0, 0, 3));
        for (int k : new int[] {-1, -2, 4, 5, 400, MAX, MIN}) {
            check.due("byte " + k, NONE, () -> d.disk.at(0, 0, k));
        }
        check.due("of an empty file", NONE, () -> new Driver().file(0, 0, "").disk.at(0, 0, 0));
        check.due("another TIME", NONE, () -> d.disk.at(0, 2, 0));
        check.due("another SORT", NONE, () -> d.disk.at(1, 0, 0));
        for (int sort : NO_SORTS) {
            check.due("SORT " + sort, NONE, () -> d.disk.at(sort, 0, 0));
        }
        for (int time : NO_TIMES) {
            check.due("TIME " + time, NONE, () -> d.disk.at(0, time, 0));
        }
        check.due("nothing is changed", usedDisk().seen(), () -> d.seen());
        d.disk.path();
        check.due("another PATH", NONE, () -> d.disk.at(0, 0, 0));

        check.sentence("Promise 10: Byte k of it (0 .. 255)");
        Driver all = new Driver();
        for (int b = 0; b < 256; b++) {
            all.disk.put(b, 1);
        }
        all.write(0, 0);
        for (int b : new int[] {0, 1, 46, 47, 48, 127, 128, 254, 255}) {
            check.due("byte " + b, b, () -> all.disk.at(0, 0, b));
        }
    }

    private static void promise11() {
        check.sentence("Promise 11: Files of a SORT are LISTED, .. as they are now: how many");
        for (int files : new int[] {0, 1, 59, 60}) {
            Driver d = new Driver();
            for (int time = files; time > 0; time--) {
                d.write(6, time);
            }
            check.due("list of " + files, files, () -> d.disk.list(6));
            check.due("the first of " + files, files == 0 ? NONE : 1, () -> d.disk.listed(0, NONE));
            check.due("the last of " + files, files == 0 ? NONE : files, () -> d.disk.listed(files - 1, NONE));
            check.due("none behind the last of " + files, NONE, () -> d.disk.listed(files, NONE));
            check.due("list of none", 0, () -> d.disk.list(0));
            check.due("the list of none tells none", NONE, () -> d.disk.listed(0, NONE));
        }

        check.sentence("Promise 11: NONE for another SORT (what was LISTED stays)");
        for (int sort : NO_SORTS) {
            refused("list(" + sort + ")", "-1", d -> d.disk.list(sort));
        }
    }

    private static void promise12() {
        check.sentence("Promise 12: NONE if there is none such");
        check.due("behind the last", NONE, () -> usedDisk().disk.listed(2, NONE));
        check.due("nothing was ever LISTED", NONE, () -> Driver.ofFiles(3).disk.listed(0, NONE));
        Driver d = usedDisk();
        for (int i : new int[] {-1, -2, 2, 3, 60, MAX, MIN}) {
            check.due("TIME of file " + i, NONE, () -> d.disk.listed(i, NONE));
            check.due("byte of file " + i, NONE, () -> d.disk.listed(i, 0));
        }
        for (int k : new int[] {-2, -3, 1, 2, 100, MAX, MIN}) {
            check.due("byte " + k, NONE, () -> d.disk.listed(0, k));
        }
        check.due("TIME of the last", 1, () -> d.disk.listed(1, NONE));
        check.due("byte of the last", 112, () -> d.disk.listed(1, 0));
        listedPaths();
        listedAsItWasThen();
    }

    private static void listedPaths() {
        check.sentence("Promise 12: its TIME (k = NONE), or byte k of its PATH");
        Driver d = new Driver().file(2, 0, "").path("l".repeat(99) + "\u00FF").file(2, MAX, "");
        d.disk.list(2);
        check.due("TIME 0", 0, () -> d.disk.listed(0, NONE));
        check.due("an empty PATH", NONE, () -> d.disk.listed(0, 0));
        check.due("the largest TIME", MAX, () -> d.disk.listed(1, NONE));
        check.due("the first of 100 bytes", 108, () -> d.disk.listed(1, 0));
        check.due("the last of 100 bytes", 255, () -> d.disk.listed(1, 99));
        check.due("none behind 100 bytes", NONE, () -> d.disk.listed(1, 100));
    }

    private static void listedAsItWasThen() {
        check.sentence("Promise 12: (told as it was then)");
        Driver d = Driver.ofFiles(60);
        check.due("list", 9, () -> d.disk.list(0));
        String then = d.told();
        for (int time = 0; time < 60; time += 7) {
            d.delete(0, time);
        }
        check.due("all are deleted", then, () -> d.told());
        d.disk.breakOff(0);
        check.due("none was ever written", then, () -> d.told());
        d.write(0, 5);
        d.disk.sync();
        check.due("another is written", then, () -> d.told());
        check.due("list again", 1, () -> d.disk.list(0));
        check.due("as it is now", "5:", () -> d.told());
    }

    private static void promise13() {
        check.sentence("Promise 13: Files of a SORT (0 .. 6)");
        Driver d = Driver.ofFiles(60);
        for (int sort = 0; sort < 7; sort++) {
            int s = sort;
            check.due("count(" + s + ")", s < 4 ? 9 : 8, () -> d.disk.count(s));
        }

        check.sentence("Promise 13: all files (7)");
        check.due("60", 60, () -> d.disk.count(7));
        check.due("none", 0, () -> new Driver().disk.count(7));

        check.sentence("Promise 13: operations since the latest SYNC (8)");
        for (int operations : new int[] {0, 1, 199, 200}) {
            Driver e = Driver.ofOperations(operations);
            check.due("of " + operations, operations, () -> e.disk.count(8));
            e.disk.sync();
            check.due("behind the SYNC", 0, () -> e.disk.count(8));
        }

        check.sentence("Promise 13: bytes on the tape (9)");
        for (int length : new int[] {0, 1, 399, 400}) {
            Driver e = new Driver().text("t".repeat(length));
            check.due("of " + length, length, () -> e.disk.count(9));
        }
        countOfAllOperations();

        check.sentence("Promise 13: NONE for another what");
        for (int what : new int[] {-1, -2, 11, 12, MAX, MIN}) {
            refused("count(" + what + ")", "-1", e -> e.disk.count(what));
        }
    }

    private static void countOfAllOperations() {
        check.sentence("Promise 13: all operations, also such as were lost, with SYNCs (10)");
        Driver d = Driver.ofOperations(200);
        check.due("200", 200, () -> d.disk.count(10));
        check.due("refused", Driver.WRONG_STATE, () -> d.write(0, 0));
        check.due("a refused call is none", 200, () -> d.disk.count(10));
        d.disk.breakOff(0);
        check.due("lost ones are some, a break-off is none", 200, () -> d.disk.count(10));
        d.disk.sync();
        d.disk.sync();
        check.due("with SYNCs", 202, () -> d.disk.count(10));
        for (int i = 0; i < 200; i++) {
            d.write(0, 0);
        }
        check.due("more than 200 in all", 402, () -> d.disk.count(10));
    }

    /** Two files are kept; since then one was written and one deleted; two are LISTED; the tape and the PATH have bytes. */
    private static Driver usedDisk() {
        Driver d = new Driver().path("p").file(0, 0, "zero").file(6, MAX, "six");
        d.disk.sync();
        d.file(0, 1, "one").delete(6, MAX);
        d.disk.list(0);
        return d.text("tape");
    }

    private interface Change {
        Object answer(Driver d);
    }

    /** The call has that answer, and a disk with it is as one without, now and however much breaks off then. */
    private static void refused(String call, String want, Change change) {
        for (int stay : new int[] {0, 1, 2}) {
            Driver d = usedDisk();
            Driver without = usedDisk();
            check.due(call, want, () -> change.answer(d));
            check.due(call + ": all is as without it", without.seen(), () -> d.seen());
            check.due(call + ": as many stay", without.disk.breakOff(stay), () -> d.disk.breakOff(stay));
            check.due(call + ": all is as without it when " + stay + " stay", without.seen(), () -> d.seen());
            check.due(call + ": the tape and the PATH stay", "5:p tape", () -> d.tapeAndPath());
        }
    }
}
