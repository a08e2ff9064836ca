/** A disk with calls that answer values, and short ways to fill it. */
final class Driver {
    static final String WRONG_INDEX = "throws.IndexOutOfBoundsException";
    static final String WRONG_ARGUMENT = "throws.IllegalArgumentException";
    static final String WRONG_STATE = "throws.IllegalStateException";

    final BreakingDisk disk = new BreakingDisk();

    /** Files of the empty PATH, of all SORTs in turn, their TIMEs 0 and up; each has one byte, "A" and up. */
    static Driver ofFiles(int files) {
        Driver d = new Driver();
        for (int time = 0; time < files; time++) {
            d.file(time % 7, time, String.valueOf((char) ('A' + time)));
        }
        return d;
    }

    /** Operations since the beginning: three files of SORT 0, the PATH "p" and TIMEs 0 .. 2, written again and again. */
    static Driver ofOperations(int operations) {
        Driver d = new Driver().path("p");
        for (int i = 0; i < operations; i++) {
            d.write(0, i % 3);
        }
        return d;
    }

    /** Puts the characters as bytes, as many at a time as go. */
    Driver text(String text) {
        for (int from = 0; from < text.length(); from += 8) {
            int n = Math.min(8, text.length() - from);
            long v = 0;
            for (int k = 0; k < n; k++) {
                v = v << 8 | text.charAt(from + k);
            }
            if (!disk.put(v, n)) {
                throw new IllegalStateException("the test's text does not go on the tape");
            }
        }
        return this;
    }

    Driver path(String text) {
        text(text);
        disk.path();
        return this;
    }

    Driver file(int sort, int time, String content) {
        text(content);
        disk.write(sort, time);
        return this;
    }

    String write(int sort, int time) {
        disk.write(sort, time);
        return "done";
    }

    String rename(int sort, int time, int toSort, int toTime) {
        disk.rename(sort, time, toSort, toTime);
        return "done";
    }

    String delete(int sort, int time) {
        disk.delete(sort, time);
        return "done";
    }

    /** The bytes of a file as characters; null if there is none. */
    String content(int sort, int time) {
        int size = disk.size(sort, time);
        if (size == BreakingDisk.NONE) {
            return null;
        }
        StringBuilder all = new StringBuilder();
        for (int k = 0; k < size; k++) {
            all.append((char) disk.at(sort, time, k));
        }
        return all.toString();
    }

    /** What is listed, as "time:path" with a comma between. */
    String told() {
        StringBuilder all = new StringBuilder();
        int time = disk.listed(0, BreakingDisk.NONE);
        for (int i = 0; time != BreakingDisk.NONE; i++) {
            all.append(i == 0 ? "" : ",").append(time).append(':').append(toldPath(i));
            time = disk.listed(i + 1, BreakingDisk.NONE);
        }
        return all.toString();
    }

    private String toldPath(int i) {
        StringBuilder all = new StringBuilder();
        int next = disk.listed(i, 0);
        for (int k = 1; next != BreakingDisk.NONE; k++) {
            all.append((char) next);
            next = disk.listed(i, k);
        }
        return all.toString();
    }

    /** What is listed, every count, and the files of every SORT, with the bytes of those of the PATH. */
    String seen() {
        StringBuilder all = new StringBuilder("listed ").append(told()).append("; counts");
        for (int what = 0; what <= 10; what++) {
            all.append(' ').append(disk.count(what));
        }
        for (int sort = 0; sort < 7; sort++) {
            int files = disk.list(sort);
            all.append("; SORT ").append(sort).append(": ").append(told());
            for (int i = 0; i < files; i++) {
                all.append(' ').append(content(sort, disk.listed(i, BreakingDisk.NONE)));
            }
        }
        return all.toString();
    }

    /** The PATH and the tape's bytes, seen by a file of SORT 5 that has them. */
    String tapeAndPath() {
        disk.write(5, 5);
        disk.list(5);
        return told() + " " + content(5, 5);
    }
}
