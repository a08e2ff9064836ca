import java.util.ArrayList;
import java.util.List;
import java.util.Random;
import java.util.TreeMap;

/** Long runs of calls, the same each time, against a second, slower disk that keeps every state since the latest SYNC. */
public final class RandomRunsTest {
    private static final int RUNS = 3000;
    private static final int CALLS = 512;
    private static final int[] ODD = {-1, -2, 7, 8, 9, 11, 60, 100, 400, Integer.MAX_VALUE, Integer.MIN_VALUE};
    private static final Check check = new Check();

    /** A name's text sorts as the document's ORDER: SORT, TIME in ten digits, PATH with / as the lowest character. */
    private static final class Model {
        final List<TreeMap<String, String>> states = new ArrayList<>(List.of(new TreeMap<>()));
        final List<String> told = new ArrayList<>();
        String tape = "";
        String path = "";
        int all = 0;

        TreeMap<String, String> files() {
            return states.get(states.size() - 1);
        }

        int since() {
            return states.size() - 1;
        }

        String key(int sort, int time) {
            StringBuilder ranked = new StringBuilder();
            for (char c : path.toCharArray()) {
                ranked.append(c == '/' ? (char) 0 : (char) (c + 1));
            }
            return String.format("%d %010d ", sort, time) + ranked;
        }

        void goOnFrom(TreeMap<String, String> state) {
            states.clear();
            states.add(state);
        }

        TreeMap<String, String> next() {
            states.add(new TreeMap<>(files()));
            all++;
            return files();
        }

        boolean wrongName(int sort, int time) {
            return sort < 0 || sort > 6 || time < 0;
        }

        boolean put(long v, int n) {
            if (n < 0 || n > 8 || tape.length() + n > 400) {
                return false;
            }
            String bytes = "";
            for (int k = 0; k < n; k++) {
                bytes = (char) (v & 255) + bytes;
                v >>= 8;
            }
            tape += bytes;
            return true;
        }

        int path() {
            if (tape.length() > 100) {
                throw new IllegalArgumentException();
            }
            path = tape;
            tape = "";
            return path.length();
        }

        String write(int sort, int time) {
            if (wrongName(sort, time)) {
                throw new IndexOutOfBoundsException();
            }
            if (since() == 200 || files().size() == 60 && !files().containsKey(key(sort, time))) {
                throw new IllegalStateException();
            }
            next().put(key(sort, time), tape);
            tape = "";
            return "done";
        }

        String rename(int sort, int time, int toSort, int toTime) {
            if (wrongName(sort, time) || wrongName(toSort, toTime)) {
                throw new IndexOutOfBoundsException();
            }
            if (!files().containsKey(key(sort, time))) {
                throw new IllegalArgumentException();
            }
            if (since() == 200) {
                throw new IllegalStateException();
            }
            TreeMap<String, String> files = next();
            files.put(key(toSort, toTime), files.remove(key(sort, time)));
            return "done";
        }

        String delete(int sort, int time) {
            if (wrongName(sort, time)) {
                throw new IndexOutOfBoundsException();
            }
            if (!files().containsKey(key(sort, time))) {
                throw new IllegalArgumentException();
            }
            if (since() == 200) {
                throw new IllegalStateException();
            }
            next().remove(key(sort, time));
            return "done";
        }

        int sync() {
            int done = since();
            goOnFrom(files());
            all++;
            return done;
        }

        int breakOff(int n) {
            if (n < 0) {
                throw new IllegalArgumentException();
            }
            int stay = Math.min(n, since());
            goOnFrom(states.get(stay));
            return stay;
        }

        int size(int sort, int time) {
            String content = wrongName(sort, time) ? null : files().get(key(sort, time));
            return content == null ? -1 : content.length();
        }

        int at(int sort, int time, int k) {
            return k < 0 || k >= size(sort, time) ? -1 : files().get(key(sort, time)).charAt(k);
        }

        int list(int sort) {
            if (sort < 0 || sort > 6) {
                return -1;
            }
            told.clear();
            for (String key : files().keySet()) {
                if (key.charAt(0) - '0' == sort) {
                    told.add(key);
                }
            }
            return told.size();
        }

        int listed(int i, int k) {
            if (i < 0 || i >= told.size()) {
                return -1;
            }
            if (k == -1) {
                return Integer.parseInt(told.get(i).substring(2, 12));
            }
            String ranked = told.get(i).substring(13);
            if (k < 0 || k >= ranked.length()) {
                return -1;
            }
            return ranked.charAt(k) == 0 ? 47 : ranked.charAt(k) - 1;
        }

        int count(int what) {
            if (what >= 0 && what <= 6) {
                return (int) files().keySet().stream().filter(key -> key.charAt(0) - '0' == what).count();
            }
            return switch (what) {
                case 7 -> files().size();
                case 8 -> since();
                case 9 -> tape.length();
                case 10 -> all;
                default -> -1;
            };
        }
    }

    /** One run; how many SORTs, TIMEs and PATHs it uses, and which calls it likes, differ from run to run. */
    private static final class Run {
        final Random random;
        final String label;
        final Driver driver = new Driver();
        final Model model = new Model();
        final int sorts;
        final int times;
        final int syncs;
        final int oddness;
        final int puts;
        int calls = 0;

        Run(int seed) {
            random = new Random(seed);
            label = "run " + seed;
            sorts = 1 + random.nextInt(7);
            times = 1 + random.nextInt(random.nextBoolean() ? 3 : 40);
            syncs = 1 + random.nextInt(60);
            oddness = 5 + random.nextInt(60);
            puts = random.nextInt(3);
        }

        int number(int bound) {
            return random.nextInt(oddness) == 0 ? ODD[random.nextInt(ODD.length)] : random.nextInt(bound);
        }

        int time() {
            return random.nextInt(50) == 0 ? Integer.MAX_VALUE - random.nextInt(2) : number(times);
        }

        /** Makes no call beyond the document's 512, since their answers are free. */
        void compare(String call, Check.Call mine, Check.Call models) {
            if (calls < CALLS) {
                calls++;
                check.due(label + ": " + call, Check.answerOf(models), mine);
            }
        }

        void put() {
            long[] likely = {0x2FL, 0x61L, 0x612FL, 0x6100L, 0xFF2FL, random.nextLong()};
            long v = likely[random.nextInt(likely.length)];
            int n = puts == 0 ? number(3) : number(9);
            int repeat = puts == 2 && random.nextInt(10) == 0 ? 12 : 1;
            for (int i = 0; i < repeat; i++) {
                compare("put(" + v + ", " + n + ")", () -> driver.disk.put(v, n), () -> model.put(v, n));
            }
        }

        void operate() {
            int sort = number(sorts);
            int time = time();
            int toSort = number(sorts);
            int toTime = time();
            switch (random.nextInt(5)) {
                case 0 -> compare("rename(" + sort + ", " + time + ", " + toSort + ", " + toTime + ")",
                        () -> driver.rename(sort, time, toSort, toTime), () -> model.rename(sort, time, toSort, toTime));
                case 1 -> compare("delete(" + sort + ", " + time + ")",
                        () -> driver.delete(sort, time), () -> model.delete(sort, time));
                default -> compare("write(" + sort + ", " + time + ")",
                        () -> driver.write(sort, time), () -> model.write(sort, time));
            }
        }

        void look() {
            int sort = number(sorts);
            int time = time();
            int k = number(6) - random.nextInt(2);
            int i = number(8);
            switch (random.nextInt(5)) {
                case 0 -> compare("size(" + sort + ", " + time + ")",
                        () -> driver.disk.size(sort, time), () -> model.size(sort, time));
                case 1 -> compare("at(" + sort + ", " + time + ", " + k + ")",
                        () -> driver.disk.at(sort, time, k), () -> model.at(sort, time, k));
                case 2 -> compare("list(" + sort + ")", () -> driver.disk.list(sort), () -> model.list(sort));
                case 3 -> compare("listed(" + i + ", " + k + ")",
                        () -> driver.disk.listed(i, k), () -> model.listed(i, k));
                default -> {
                    int what = number(11);
                    compare("count(" + what + ")", () -> driver.disk.count(what), () -> model.count(what));
                }
            }
        }

        void stayOrBreak() {
            int n = number(model.since() + 2);
            if (random.nextBoolean()) {
                compare("sync()", () -> driver.disk.sync(), () -> model.sync());
            } else {
                compare("breakOff(" + n + ")", () -> driver.disk.breakOff(n), () -> model.breakOff(n));
            }
        }

        void go() {
            int end = CALLS - random.nextInt(300);
            while (calls < end) {
                if (random.nextInt(syncs * 5) == 0) {
                    stayOrBreak();
                    continue;
                }
                switch (random.nextInt(6)) {
                    case 0 -> put();
                    case 1 -> look();
                    case 2 -> {
                        if (random.nextInt(4) == 0) {
                            compare("path()", () -> driver.disk.path(), () -> model.path());
                        }
                    }
                    default -> operate();
                }
            }
            lookAtTheEnd();
        }

        /** Looks at what can be seen, in half of the runs when all since the SYNC is lost, with the calls that are left. */
        void lookAtTheEnd() {
            if (random.nextBoolean()) {
                compare("at the end: breakOff(0)", () -> driver.disk.breakOff(0), () -> model.breakOff(0));
            }
            for (int what = 0; what <= 10; what++) {
                int w = what;
                compare("at the end: count(" + w + ")", () -> driver.disk.count(w), () -> model.count(w));
            }
            int first = random.nextInt(sorts);
            for (int turn = 0; turn < 7; turn++) {
                int sort = (first + turn) % 7;
                compare("at the end: list(" + sort + ")", () -> driver.disk.list(sort), () -> model.list(sort));
                lookAtTheList();
            }
        }

        void lookAtTheList() {
            for (int file = 0; file <= model.told.size(); file++) {
                int i = file;
                int next = 0;
                for (int k = -1; next != -1; k++) {
                    int at = k;
                    compare("at the end: listed(" + i + ", " + at + ")",
                            () -> driver.disk.listed(i, at), () -> model.listed(i, at));
                    next = model.listed(i, at);
                }
            }
        }
    }

    public static void main(String[] args) {
        for (int seed = 0; seed < RUNS; seed++) {
            new Run(seed).go();
        }
        check.end("RandomRunsTest");
    }
}
