/** A disk with calls that answer values, and short ways to fill it. */
final class Driver {
    static final String WRONG_INDEX = "throws.IndexOutOfBoundsException";
    static final String WRONG_ARGUMENT = "throws.IllegalArgumentException";
    static final String WRONG_STATE = "throws.IllegalStateException";

    final BreakingDisk disk = new BreakingDisk();

    /** Puts the characters as bytes, as many at a time as go. */
    Driver text(String text) {
        for (int from = 0; from < text.length(); from += 8) {
            int n = Math.min(8, text.length() - from);
            long v = 0;
            for (int k = 0; k < n; k++) {
                v = v << 8 | text.charAt(from + k);
            }
            if (!disk.put(v, n)) {
                throw new IllegalStateException("the test's text does not go on the tape");
            }
        }
        return this;
    }

    Driver path(String text) {
        text(text);
        disk.path();
        return this;
    }

    Driver file(int sort, int time, String content) {
        text(content);
        disk.write(sort, time);
        return this;
    }

    String write(int sort, int time) {
        disk.write(sort, time);
        return "done";
    }

    String rename(int sort, int time, int toSort, int toTime) {
        disk.rename(sort, time, toSort, toTime);
        return "done";
    }

    String delete(int sort, int time) {
        disk.delete(sort, time);
        return "done";
    }

    /** The bytes of a file as characters; null if there is none. */
    String content(int sort, int time) {
        int size = disk.size(sort, time);
        if (size == BreakingDisk.NONE) {
            return null;
        }
        StringBuilder all = new StringBuilder();
        for (int k = 0; k < size; k++) {
            all.append((char) disk.at(sort, time, k));
        }
        return all.toString();
    }

    /** What is listed, as "time:path" with a comma between. */
    String told() {
        StringBuilder all = new StringBuilder();
        for (int i = 0; disk.listed(i, BreakingDisk.NONE) != BreakingDisk.NONE; i++) {
            all.append(i == 0 ? "" : ",").append(disk.listed(i, BreakingDisk.NONE)).append(':');
            for (int k = 0; disk.listed(i, k) != BreakingDisk.NONE; k++) {
                all.append((char) disk.listed(i, k));
            }
        }
        return all.toString();
    }
}
