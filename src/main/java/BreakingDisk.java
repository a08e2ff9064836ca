import java.util.Arrays;

/** A disk that may break off; ../shared/DOC.md says what each call promises. */
public final class BreakingDisk {
    public static final int NONE = -1;

    private static final int SORTS = 7;
    private static final int MOST_FILES = 60;
    private static final int MOST_OPERATIONS = 200;
    private static final int MOST_TAPE_BYTES = 400;
    private static final int MOST_PATH_BYTES = 100;
    private static final int MOST_PUT_BYTES = 8;
    private static final int SLASH = 47;

    private static final int ALL_FILES = 7;
    private static final int OPERATIONS_SINCE_SYNC = 8;
    private static final int TAPE_BYTES = 9;
    private static final int ALL_OPERATIONS = 10;

    private final Tape tape;
    private final Files now;
    private final Files kept;
    private final Files told;
    private final Journal journal;
    private Bytes currentPath;
    private int allOperations;

    public BreakingDisk() {
        tape = new Tape();
        now = new Files();
        kept = new Files();
        told = new Files();
        journal = new Journal();
        currentPath = new Bytes(new byte[0]);
        allOperations = 0;
    }

    public boolean put(long v, int n) {
        return tape.append(v, n);
    }

    public int path() throws IllegalArgumentException {
        if (tape.length > MOST_PATH_BYTES) {
            throw new IllegalArgumentException("the tape is too long for a PATH");
        }
        currentPath = tape.take();
        return currentPath.length();
    }

    public void write(int sort, int time) throws IndexOutOfBoundsException, IllegalStateException {
        refuseWrongName(sort, time);
        Name name = nameOf(sort, time);
        if (now.isFull() && now.find(name) == null) {
            throw new IllegalStateException("there are 60 files");
        }
        refuseFullJournal();
        perform(new Operation(name, new StoredFile(name, tape.take())));
    }

    public void rename(int sort, int time, int toSort, int toTime)
            throws IndexOutOfBoundsException, IllegalArgumentException, IllegalStateException {
        refuseWrongName(sort, time);
        refuseWrongName(toSort, toTime);
        StoredFile file = fileToChange(sort, time);
        refuseFullJournal();
        perform(new Operation(file.name, new StoredFile(nameOf(toSort, toTime), file.content)));
    }

    public void delete(int sort, int time)
            throws IndexOutOfBoundsException, IllegalArgumentException, IllegalStateException {
        refuseWrongName(sort, time);
        StoredFile file = fileToChange(sort, time);
        refuseFullJournal();
        perform(new Operation(file.name, null));
    }

    public int sync() {
        int done = journal.length;
        kept.copyFrom(now);
        journal.clear();
        allOperations++;
        return done;
    }

    public int breakOff(int n) throws IllegalArgumentException {
        if (n < 0) {
            throw new IllegalArgumentException("n is below 0");
        }
        int stay = Math.min(n, journal.length);
        journal.replayFirst(stay, kept);
        now.copyFrom(kept);
        journal.clear();
        return stay;
    }

    public int size(int sort, int time) {
        StoredFile file = now.find(nameOf(sort, time));
        return file == null ? NONE : file.content.length();
    }

    public int at(int sort, int time, int k) {
        StoredFile file = now.find(nameOf(sort, time));
        return file == null ? NONE : file.content.byteAt(k);
    }

    public int list(int sort) {
        if (!isSort(sort)) {
            return NONE;
        }
        told.copySortFrom(now, sort);
        return told.length;
    }

    public int listed(int i, int k) {
        StoredFile file = told.nth(i);
        if (file == null) {
            return NONE;
        }
        return k == NONE ? file.name.time : file.name.path.byteAt(k);
    }

    public int count(int what) {
        if (isSort(what)) {
            return now.countOfSort(what);
        }
        switch (what) {
            case ALL_FILES:
                return now.length;
            case OPERATIONS_SINCE_SYNC:
                return journal.length;
            case TAPE_BYTES:
                return tape.length;
            case ALL_OPERATIONS:
                return allOperations;
            default:
                return NONE;
        }
    }

    private static boolean isSort(int sort) {
        return sort >= 0 && sort < SORTS;
    }

    private static void refuseWrongName(int sort, int time) {
        if (!isSort(sort) || time < 0) {
            throw new IndexOutOfBoundsException("no such SORT or TIME");
        }
    }

    private void refuseFullJournal() {
        if (journal.isFull()) {
            throw new IllegalStateException("200 operations were done since the latest SYNC");
        }
    }

    private StoredFile fileToChange(int sort, int time) {
        StoredFile file = now.find(nameOf(sort, time));
        if (file == null) {
            throw new IllegalArgumentException("there is no such file");
        }
        return file;
    }

    private Name nameOf(int sort, int time) {
        return new Name(sort, time, currentPath);
    }

    private void perform(Operation operation) {
        now.apply(operation);
        journal.append(operation);
        allOperations++;
    }

    /** Bytes that never change, so that names, files and lists may share them. */
    private static final class Bytes {
        private final byte[] row;

        /** The row is this object's from now on: nobody else may write to it. */
        Bytes(byte[] row) {
            this.row = row;
        }

        int length() {
            return row.length;
        }

        int byteAt(int k) {
            return k >= 0 && k < row.length ? row[k] & 255 : NONE;
        }

        /** Below 0, 0 or above 0, as this comes ahead of the other, is the same, or comes behind it. */
        int order(Bytes other) {
            for (int k = 0; k < row.length && k < other.row.length; k++) {
                int mine = row[k] & 255;
                int theirs = other.row[k] & 255;
                if (mine != theirs) {
                    return mine == SLASH ? -1 : theirs == SLASH ? 1 : mine - theirs;
                }
            }
            return row.length - other.row.length;
        }
    }

    private static final class Tape {
        private final byte[] row = new byte[MOST_TAPE_BYTES];
        private int length = 0;

        boolean append(long v, int n) {
            if (n < 0 || n > MOST_PUT_BYTES || n > row.length - length) {
                return false;
            }
            for (int k = n - 1; k >= 0; k--) {
                row[length] = (byte) (v >>> (8 * k));
                length++;
            }
            return true;
        }

        /** What stands on the tape, which is empty then. */
        Bytes take() {
            Bytes all = new Bytes(Arrays.copyOf(row, length));
            length = 0;
            return all;
        }
    }

    private static final class Name {
        private final int sort;
        private final int time;
        private final Bytes path;

        Name(int sort, int time, Bytes path) {
            this.sort = sort;
            this.time = time;
            this.path = path;
        }

        /** The document's ORDER within a SORT; the SORTs come first, so that two names are 0 only if they are one. */
        int order(Name other) {
            if (sort != other.sort) {
                return Integer.compare(sort, other.sort);
            }
            if (time != other.time) {
                return Integer.compare(time, other.time);
            }
            return path.order(other.path);
        }
    }

    /** A file that never changes: another one takes its place, so what is kept and what was listed stay as they were. */
    private static final class StoredFile {
        private final Name name;
        private final Bytes content;

        StoredFile(Name name, Bytes content) {
            this.name = name;
            this.content = content;
        }
    }

    /** A WRITE, RENAME or DELETE by what it does: the file of one name goes, and another (null: none) comes. */
    private static final class Operation {
        private final Name goes;
        private final StoredFile comes;

        Operation(Name goes, StoredFile comes) {
            this.goes = goes;
            this.comes = comes;
        }
    }

    /** The operations since the latest SYNC, so that the first of them can be done again on what was kept. */
    private static final class Journal {
        private final Operation[] row = new Operation[MOST_OPERATIONS];
        private int length = 0;

        boolean isFull() {
            return length >= row.length;
        }

        void append(Operation operation) {
            if (length < row.length) {
                row[length] = operation;
                length++;
            }
        }

        void replayFirst(int n, Files files) {
            int end = Math.min(n, length);
            for (int i = 0; i < end; i++) {
                files.apply(row[i]);
            }
        }

        void clear() {
            length = 0;
        }
    }

    /** Files by their names, always in order, so that a list is a plain copy. */
    private static final class Files {
        private final StoredFile[] row = new StoredFile[MOST_FILES];
        private int length = 0;

        boolean isFull() {
            return length >= row.length;
        }

        StoredFile nth(int i) {
            return i >= 0 && i < length ? row[i] : null;
        }

        /** Null if there is none. */
        StoredFile find(Name name) {
            return nth(indexOf(name));
        }

        int countOfSort(int sort) {
            int found = 0;
            for (int i = 0; i < length; i++) {
                if (isOfSort(row[i], sort)) {
                    found++;
                }
            }
            return found;
        }

        void apply(Operation operation) {
            if (operation == null) {
                return;
            }
            remove(operation.goes);
            if (operation.comes != null) {
                remove(operation.comes.name);
                insert(operation.comes);
            }
        }

        void copyFrom(Files other) {
            length = other.length;
            for (int i = 0; i < length; i++) {
                row[i] = other.row[i];
            }
        }

        void copySortFrom(Files other, int sort) {
            length = 0;
            for (int i = 0; i < other.length; i++) {
                if (isOfSort(other.row[i], sort)) {
                    insert(other.row[i]);
                }
            }
        }

        private static boolean isOfSort(StoredFile file, int sort) {
            return file != null && file.name.sort == sort;
        }

        private int indexOf(Name name) {
            for (int i = 0; i < length; i++) {
                if (row[i] != null && name.order(row[i].name) == 0) {
                    return i;
                }
            }
            return NONE;
        }

        private void remove(Name name) {
            int i = indexOf(name);
            if (i == NONE) {
                return;
            }
            length--;
            for (int k = i; k < length; k++) {
                row[k] = row[k + 1];
            }
        }

        private void insert(StoredFile file) {
            if (file == null || isFull()) {
                return;
            }
            int i = length;
            while (i > 0 && row[i - 1] != null && file.name.order(row[i - 1].name) < 0) {
                row[i] = row[i - 1];
                i--;
            }
            row[i] = file;
            length++;
        }
    }
}
