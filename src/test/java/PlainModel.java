import java.util.ArrayDeque;
import java.util.ArrayList;
import java.util.List;
import java.util.TreeSet;

/** The document read plainly, with the Java library, to compare the program with. A throw is a code. */
final class PlainModel {
    static final long ARGUMENT = Long.MAX_VALUE;
    static final long STATE = Long.MAX_VALUE - 1;
    private static final int NONE = -1;

    private static final class Chunk {
        int number;
        int tick;
        int events;
        List<Integer> bytes = new ArrayList<>();
        TreeSet<Integer> strings = new TreeSet<>();
    }

    private static final class Recording {
        int state;
        boolean[] on = {true, true, true, true, true, true};
        int[] threshold = new int[6];
        int first;
        int last = Integer.MAX_VALUE;
    }

    private final int size;
    private final int pool;
    private final int kept;
    private int now;
    private String text = "";
    private final List<int[]> types = new ArrayList<>();
    private final List<ArrayDeque<Integer>> begun = new ArrayList<>();
    private final List<List<Integer>> buffers = new ArrayList<>();
    private final List<List<Integer>> full = new ArrayList<>();
    private final List<String> strings = new ArrayList<>();
    private final List<Recording> recordings = new ArrayList<>();
    private final List<Chunk> finished = new ArrayList<>();
    private Chunk open = new Chunk();
    private int evicted;
    private final int[] lost = new int[3];
    private final int[] lostAtOpening = new int[3];
    private List<Integer> output = new ArrayList<>();

    PlainModel(int size, int pool, int kept) {
        this.size = size < 16 ? 16 : size > 60 ? 60 : size;
        this.pool = pool < 0 ? 0 : pool > 4 ? 4 : pool;
        this.kept = kept < 1 ? 1 : kept > 5 ? 5 : kept;
        for (int k = 0; k < 3; k++) {
            begun.add(new ArrayDeque<>());
            buffers.add(new ArrayList<>());
        }
        open.number = 1;
    }

    private static void variable(List<Integer> row, int value) {
        long rest = value & 0xFFFFFFFFL;
        while (rest >= 128) {
            row.add((int) (rest % 128 + 128));
            rest /= 128;
        }
        row.add((int) rest);
    }

    private static int zigzag(int v) {
        return v << 1 ^ v >> 31;
    }

    private boolean thread(int thread) {
        return thread == 0 || thread == 1 || thread == 2;
    }

    private boolean declared(int type) {
        return 0 <= type && type < types.size();
    }

    private Recording recording(int k) {
        return 0 <= k && k < recordings.size() ? recordings.get(k) : null;
    }

    long write(char c) {
        if (text.length() == 40 || c < ' ' || c > '~') {
            return 0;
        }
        text += c;
        return 1;
    }

    long advance(int n) {
        now += 0 <= n && n <= 1000 ? n : 0;
        return now;
    }

    long type(int ints, boolean string) {
        if (ints < 0 || ints > 3) {
            return ARGUMENT;
        }
        if (types.size() == 6) {
            return STATE;
        }
        types.add(new int[] {ints, string ? 1 : 0});
        return types.size() - 1;
    }

    long begin(int thread) {
        if (!thread(thread) || begun.get(thread).size() == 3) {
            return 0;
        }
        begun.get(thread).push(now);
        return 1;
    }

    long commit(int thread, int type, int a, int b, int c) {
        if (!thread(thread) || !declared(type)) {
            return NONE;
        }
        boolean hasString = types.get(type)[1] == 1;
        String string = hasString ? text.substring(0, Math.min(8, text.length())) : null;
        if (hasString) {
            text = "";
        }
        if (begun.get(thread).isEmpty()) {
            return 1;
        }
        int tick = begun.get(thread).pop();
        int duration = now - tick;
        if (recordings.stream().noneMatch(r -> r.state == 1 && r.on[type])) {
            return 2;
        }
        if (recordings.stream().noneMatch(r -> r.state == 1 && r.on[type] && r.threshold[type] <= duration)) {
            return 3;
        }
        boolean isNew = hasString && !strings.contains(string);
        int number = isNew ? strings.size() : strings.indexOf(string);
        List<Integer> event = event(type, tick, duration, new int[] {a, b, c}, hasString ? number : NONE);
        List<Integer> buffer = buffers.get(thread);
        boolean needsShared = buffer.size() + event.size() > size;
        if (isNew && strings.size() == 24 || event.size() > size || needsShared && full.size() == pool) {
            lost[thread]++;
            return 4;
        }
        if (isNew) {
            strings.add(string);
        }
        if (hasString) {
            open.strings.add(number);
        }
        if (needsShared) {
            full.add(new ArrayList<>(buffer));
            buffer.clear();
        }
        buffer.addAll(event);
        open.events++;
        return 0;
    }

    private List<Integer> event(int type, int tick, int duration, int[] values, int string) {
        List<Integer> rest = new ArrayList<>();
        variable(rest, type);
        variable(rest, tick);
        variable(rest, duration);
        for (int k = 0; k < types.get(type)[0]; k++) {
            variable(rest, zigzag(values[k]));
        }
        if (string != NONE) {
            variable(rest, string);
        }
        List<Integer> event = new ArrayList<>();
        variable(event, rest.size());
        event.addAll(rest);
        return event;
    }

    private void rotate() {
        for (List<Integer> row : full) {
            open.bytes.addAll(row);
        }
        full.clear();
        for (List<Integer> row : buffers) {
            open.bytes.addAll(row);
            row.clear();
        }
        for (int k = 0; k < 3; k++) {
            int since = lost[k] - lostAtOpening[k];
            lostAtOpening[k] = lost[k];
            if (since > 0) {
                List<Integer> loss = new ArrayList<>(List.of(63, k));
                variable(loss, since);
                variable(open.bytes, loss.size());
                open.bytes.addAll(loss);
            }
        }
        if (!open.bytes.isEmpty()) {
            finished.add(open);
        }
        if (finished.size() > kept) {
            finished.remove(0);
            evicted++;
        }
        Chunk next = new Chunk();
        next.number = open.number + 1;
        next.tick = now;
        open = next;
    }

    long flush() {
        if (full.isEmpty()) {
            return 0;
        }
        List<Integer> row = full.remove(0);
        open.bytes.addAll(row);
        if (open.bytes.size() > 150) {
            rotate();
        }
        return row.size();
    }

    long record() {
        if (recordings.size() == 4) {
            return STATE;
        }
        recordings.add(new Recording());
        return recordings.size() - 1;
    }

    private long settings(int k, String characters) {
        Recording recording = recording(k);
        if (recording == null || !characters.matches("[0-9][+-][0-9]{0,3}(,[0-9][+-][0-9]{0,3})*")) {
            return ARGUMENT;
        }
        String[] items = characters.split(",");
        for (String item : items) {
            if (!declared(item.charAt(0) - '0')) {
                return ARGUMENT;
            }
        }
        if (recording.state == 3) {
            return STATE;
        }
        for (String item : items) {
            int type = item.charAt(0) - '0';
            recording.on[type] = item.charAt(1) == '+';
            if (item.length() > 2) {
                recording.threshold[type] = Integer.parseInt(item.substring(2));
            }
        }
        return items.length;
    }

    long settings(int k) {
        String taken = text;
        text = "";
        return settings(k, taken);
    }

    long profile() {
        long answer = 0;
        for (String part : text.split("\\|", -1)) {
            boolean good = part.matches("[0-9]:.*");
            if (good) {
                long items = settings(part.charAt(0) - '0', part.substring(2));
                good = items != ARGUMENT && items != STATE;
            }
            answer += good ? 10 : 1;
        }
        text = "";
        return answer;
    }

    long start(int k) {
        if (recording(k) == null) {
            return ARGUMENT;
        }
        if (recording(k).state != 0) {
            return STATE;
        }
        rotate();
        recording(k).state = 1;
        recording(k).first = open.number;
        return open.number;
    }

    long stop(int k) {
        if (recording(k) == null) {
            return ARGUMENT;
        }
        if (recording(k).state != 1) {
            return STATE;
        }
        recording(k).last = open.number;
        rotate();
        recording(k).state = 2;
        return recording(k).last;
    }

    long close(int k) {
        if (recording(k) == null) {
            return ARGUMENT;
        }
        if (recording(k).state == 3) {
            return STATE;
        }
        boolean ran = recording(k).state == 1;
        if (ran) {
            stop(k);
        }
        recording(k).state = 3;
        return ran ? 1 : 0;
    }

    long dump(int k) {
        if (recording(k) == null) {
            return ARGUMENT;
        }
        if (recording(k).state == 0 || recording(k).state == 3) {
            return STATE;
        }
        if (recording(k).state == 1) {
            rotate();
        }
        output = new ArrayList<>();
        for (Chunk chunk : finished) {
            if (recording(k).first <= chunk.number && chunk.number <= recording(k).last) {
                writeOut(chunk);
            }
        }
        return output.size();
    }

    private void writeOut(Chunk chunk) {
        output.add(70);
        variable(output, chunk.number);
        variable(output, chunk.tick);
        variable(output, chunk.events);
        output.addAll(chunk.bytes);
        output.add(0);
        variable(output, chunk.strings.size());
        for (int number : chunk.strings) {
            variable(output, number);
            variable(output, strings.get(number).length());
            for (char c : strings.get(number).toCharArray()) {
                output.add((int) c);
            }
        }
    }

    long output(int k) {
        return 0 <= k && k < output.size() ? output.get(k) : NONE;
    }

    long state(int k) {
        return recording(k) == null ? NONE : recording(k).state;
    }

    long threshold(int k, int type) {
        return recording(k) == null || !declared(type) || !recording(k).on[type] ? NONE : recording(k).threshold[type];
    }

    long buffered(int thread) {
        return thread(thread) ? buffers.get(thread).size() : NONE;
    }

    long count(int what) {
        int[] counts = {full.size(), open.number, open.bytes.size(), finished.size(), evicted, strings.size()};
        return 0 <= what && what < counts.length ? counts[what] : NONE;
    }

    long lost(int thread) {
        return thread(thread) ? lost[thread] : NONE;
    }
}
