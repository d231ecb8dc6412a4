import java.util.ArrayList;
import java.util.List;

/**
 * What is refused changes nothing (but the text, where it is taken): of two objects with the same past one is
 * asked for what it must refuse, and from then on both answer the same, whatever is still done with them.
 */
public final class RefusedTest {
    private static final int NONE = EventRecorder.NONE;
    private static final int LOW = Integer.MIN_VALUE;
    private static final int HIGH = Integer.MAX_VALUE;
    private static final int ARGUMENT = 1001;
    private static final int STATE = 1002;
    private static final Check check = new Check();

    private interface Past {
        EventRecorder lived();
    }

    private interface Call {
        long on(EventRecorder x);
    }

    private record Refusal(String name, Call call, long due) {
    }

    public static void main(String[] args) {
        compare("a new object", () -> new EventRecorder(16, 1, 1), ofNew());
        compare("a new object", () -> new EventRecorder(16, 1, 1), ofAny());
        compare("a full object", RefusedTest::full, ofFull());
        compare("a full object", RefusedTest::full, ofAny());
        compare("a full object with no text", RefusedTest::fullWithoutText, ofTextTaken());
        check.end();
    }

    private static void compare(String past, Past life, List<Refusal> refusals) {
        for (Refusal refusal : refusals) {
            check.in("what is refused changes nothing, " + past);
            EventRecorder asked = life.lived();
            EventRecorder twin = life.lived();
            check.due(refusal.name(), answer(refusal.call(), asked), refusal.due());
            same(refusal.name(), future(asked), future(twin));
        }
    }

    private static void same(String refused, List<String> got, List<String> want) {
        check.due("how many answers after " + refused, got.size(), want.size());
        for (int k = 0; k < Math.min(got.size(), want.size()); k++) {
            if (!got.get(k).equals(want.get(k))) {
                check.report("after " + refused + ": " + got.get(k) + ", due is " + want.get(k));
                return;
            }
        }
    }

    private static long answer(Call call, EventRecorder x) {
        try {
            return call.on(x);
        } catch (IllegalArgumentException e) {
            return ARGUMENT;
        } catch (IllegalStateException e) {
            return STATE;
        }
    }

    private static void add(List<Refusal> list, String name, Call call, long due) {
        list.add(new Refusal(name, call, due));
    }

    /** Six types, recordings in each state, full buffers, a flushed one, losses, 3 begun ticks, chunks kept. */
    private static EventRecorder fullWithoutText() {
        EventRecorder x = new EventRecorder(16, 2, 2);
        for (int k = 0; k < 6; k++) {
            x.type(k % 4, k > 3);
        }
        for (int k = 0; k < 4; k++) {
            x.record();
        }
        x.start(2);
        x.start(1);
        Check.eventWith(x, 0, 4, "a");
        x.dump(1);
        Check.eventWith(x, 1, 4, "b");
        x.stop(2);
        x.close(3);
        Check.profile(x, "1:0+3,2-|2:5-4|0:1+77");
        Check.bigEvent(x, 2, 3);
        Check.events(x, 1, 1, 10);
        x.flush();
        Check.events(x, 0, 4, 4);
        for (int thread = 0; thread < 3; thread++) {
            for (int k = 0; k < 3; k++) {
                x.advance(2);
                x.begin(thread);
            }
        }
        return x;
    }

    private static EventRecorder full() {
        EventRecorder x = fullWithoutText();
        Check.text(x, "0:0+,1+,2+,3+|1:0+,1+,2+,3+|2:0+,1+,2+,1");
        return x;
    }

    private static List<Refusal> ofNew() {
        List<Refusal> list = new ArrayList<>();
        add(list, "commit(0, 0) without types", x -> x.commit(0, 0, 1, 2, 3), NONE);
        add(list, "state(0)", x -> x.state(0), NONE);
        add(list, "threshold(0, 0)", x -> x.threshold(0, 0), NONE);
        add(list, "output(0)", x -> x.output(0), NONE);
        add(list, "start(0)", x -> x.start(0), ARGUMENT);
        add(list, "stop(0)", x -> x.stop(0), ARGUMENT);
        add(list, "close(0)", x -> x.close(0) ? 1 : 0, ARGUMENT);
        add(list, "dump(0)", x -> x.dump(0), ARGUMENT);
        add(list, "settings(0)", x -> x.settings(0), ARGUMENT);
        add(list, "profile()", EventRecorder::profile, 1);
        add(list, "flush()", EventRecorder::flush, 0);
        return list;
    }

    private static List<Refusal> ofAny() {
        List<Refusal> list = new ArrayList<>();
        for (int wrong : new int[] {LOW, -1, 6, HIGH}) {
            String name = "(" + wrong + ")";
            add(list, "type" + name, x -> x.type(wrong, true), ARGUMENT);
            add(list, "begin" + name, x -> x.begin(wrong) ? 1 : 0, 0);
            add(list, "commit of thread " + wrong, x -> x.commit(wrong, 0, 1, 2, 3), NONE);
            add(list, "commit of type " + wrong, x -> x.commit(0, wrong, 1, 2, 3), NONE);
            add(list, "start" + name, x -> x.start(wrong), ARGUMENT);
            add(list, "stop" + name, x -> x.stop(wrong), ARGUMENT);
            add(list, "close" + name, x -> x.close(wrong) ? 1 : 0, ARGUMENT);
            add(list, "dump" + name, x -> x.dump(wrong), ARGUMENT);
            add(list, "state" + name, x -> x.state(wrong), NONE);
            add(list, "threshold of recording " + wrong, x -> x.threshold(wrong, 0), NONE);
            add(list, "threshold of type " + wrong, x -> x.threshold(0, wrong), NONE);
            add(list, "buffered" + name, x -> x.buffered(wrong), NONE);
            add(list, "count" + name, x -> x.count(wrong), NONE);
            add(list, "lost" + name, x -> x.lost(wrong), NONE);
        }
        for (int wrong : new int[] {LOW, -1, 3000, HIGH}) {
            add(list, "output(" + wrong + ")", x -> x.output(wrong), NONE);
        }
        for (int code : new int[] {0, 31, 127, 128, 65535}) {
            add(list, "write of code " + code, x -> x.write((char) code) ? 1 : 0, 0);
        }
        for (int n : new int[] {LOW, -1, 1001, HIGH}) {
            add(list, "advance(" + n + ") grows", x -> x.advance(n) - x.advance(0), 0);
        }
        return list;
    }

    private static List<Refusal> ofFull() {
        List<Refusal> list = new ArrayList<>();
        add(list, "write with 40 characters there", x -> x.write('9') ? 1 : 0, 0);
        add(list, "type() with 6 there", x -> x.type(3, true), STATE);
        add(list, "record() with 4 there", EventRecorder::record, STATE);
        for (int thread = 0; thread < 3; thread++) {
            int wanted = thread;
            add(list, "begin(" + thread + ") with 3 begun", x -> x.begin(wanted) ? 1 : 0, 0);
        }
        for (int recording : new int[] {1, 2, 3}) {
            add(list, "start(" + recording + ")", x -> x.start(recording), STATE);
        }
        for (int recording : new int[] {0, 2, 3}) {
            add(list, "stop(" + recording + ")", x -> x.stop(recording), STATE);
        }
        for (int recording : new int[] {0, 3}) {
            add(list, "dump(" + recording + ")", x -> x.dump(recording), STATE);
        }
        add(list, "close(3)", x -> x.close(3) ? 1 : 0, STATE);
        add(list, "threshold(2, 5), which is off", x -> x.threshold(2, 5), NONE);
        return list;
    }

    /** The text that each of these writes is taken by it, as if it had never been there. */
    private static List<Refusal> ofTextTaken() {
        List<Refusal> list = new ArrayList<>();
        for (int wrong : new int[] {LOW, -1, 4, HIGH}) {
            add(list, "settings(" + wrong + ")", x -> Check.settings(x, wrong, "0-9,1-8,2-7"), ARGUMENT);
        }
        add(list, "settings(3)", x -> Check.settings(x, 3, "0-9,1-8,2-7"), STATE);
        for (String text : new String[] {"", "0", "0-9,", "0-9,1-8,2-7,6-", "0-9,1-8,2-1000", "0-9,1-8;2-7", "1:0-9"}) {
            for (int recording = 0; recording < 4; recording++) {
                int chosen = recording;
                add(list, "settings(" + chosen + ") of '" + text + "'", x -> Check.settings(x, chosen, text), ARGUMENT);
            }
            if (text.indexOf(':') < 0) {
                add(list, "profile() of '1:" + text + "'", x -> Check.profile(x, "1:" + text), 1);
            }
        }
        add(list, "profile() of bad parts", x -> Check.profile(x, "3:0-9|4:0-9|1:6-|x|"), 5);
        return list;
    }

    /** The answers to all questions, and then to calls that bring to light what no question shows. */
    private static List<String> future(EventRecorder x) {
        List<String> seen = new ArrayList<>();
        questions(seen, x);
        output(seen, x);
        int accepted = 0;
        while (accepted < 3 && x.write('z')) {
            accepted++;
        }
        seen.add("characters accepted " + accepted);
        seen.add("type " + answer(y -> y.type(1, true), x));
        seen.add("record " + answer(EventRecorder::record, x));
        for (int thread = 0; thread < 3; thread++) {
            seen.add("commit with the text " + x.commit(thread, 4, thread, 5, 6));
        }
        seen.add("profile " + x.profile());
        seen.add("flush " + x.flush());
        for (int thread = 2; thread >= 0; thread--) {
            seen.add("commit " + x.commit(thread, 3, thread, 5, 6));
            seen.add("commit " + x.commit(thread, 0, 0, 0, 0));
            seen.add("commit " + x.commit(thread, 0, 0, 0, 0));
        }
        seen.add("dump(2) " + answer(y -> y.dump(2), x));
        output(seen, x);
        seen.add("start(0) " + answer(y -> y.start(0), x));
        seen.add("dump(1) " + answer(y -> y.dump(1), x));
        output(seen, x);
        for (int what = 0; what < 6; what++) {
            seen.add("at last count(" + what + ") " + x.count(what));
        }
        return seen;
    }

    private static void questions(List<String> seen, EventRecorder x) {
        seen.add("NOW " + x.advance(0));
        for (int what = 0; what < 6; what++) {
            seen.add("count(" + what + ") " + x.count(what));
        }
        for (int k = 0; k < 3; k++) {
            seen.add("buffered(" + k + ") " + x.buffered(k));
            seen.add("lost(" + k + ") " + x.lost(k));
        }
        for (int recording = 0; recording < 4; recording++) {
            seen.add("state(" + recording + ") " + x.state(recording));
            for (int type = 0; type < 6; type++) {
                seen.add("threshold(" + recording + ", " + type + ") " + x.threshold(recording, type));
            }
        }
    }

    private static void output(List<String> seen, EventRecorder x) {
        int got = x.output(0);
        for (int k = 1; got != NONE; k++) {
            seen.add("output(" + (k - 1) + ") " + got);
            got = x.output(k);
        }
    }
}
