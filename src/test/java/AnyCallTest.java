import com.sun.management.ThreadMXBean;
import java.lang.management.ManagementFactory;
import java.util.Arrays;

/** All promises: no call throws, what is refused or only asked changes nothing, calls make no objects. */
public final class AnyCallTest {
    private static final Due DUE = new Due("AnyCallTest");
    private static final String CHANGING = " roof pitch wear opening lay strip years grew write wipe done keep again ";

    public static void main(String[] args) throws ReflectiveOperationException {
        for (int run = 0; run < 60; run++) {
            wildRun(run);
            changesOnlyWhatItMay(run);
        }
        makesNoObjects();
        DUE.end();
    }

    private static void wildRun(int run) throws ReflectiveOperationException {
        int[] state = {1 + run % 6, 1 + run / 6 % 6, 40};
        Calls calls = new Calls(run * 31L + 5, state);
        StrawCoats x = new StrawCoats();
        for (int k = 0; k < 512; k++) {
            Object[] call = calls.next(1 + run % 4);
            try {
                calls.answer(x, call);
            } catch (java.lang.reflect.InvocationTargetException e) {
                DUE.holds("run " + run + ": " + Arrays.toString(call) + " threw " + e.getCause(), false);
            }
        }
        DUE.holds("wild run", true);
    }

    private static void changesOnlyWhatItMay(int run) throws ReflectiveOperationException {
        int[] state = {4, 4, 0};
        Calls calls = new Calls(run * 101L + 3, state);
        StrawCoats x = new StrawCoats();
        String before = stateOf(x);
        for (int k = 0; k < 300; k++) {
            Object[] call = calls.next(4);
            long answer = ((Number) calls.answer(x, call)).longValue();
            String after = stateOf(x);
            if (answer < 0 && answer >= -4 || !CHANGING.contains(" " + call[0] + " ")) {
                DUE.holds("run " + run + ": " + Arrays.toString(call) + " changed nothing", before.equals(after));
            }
            before = after;
            state[0] = x.count(0);
            state[1] = x.count(1);
            state[2] = x.count(2);
        }
    }

    /** All that can be asked of an object, each setting told anew as it was. */
    private static String stateOf(StrawCoats x) {
        StringBuilder all = new StringBuilder();
        for (int what = 0; what < 6; what++) {
            all.append(x.count(what)).append(' ');
        }
        int pitch = x.pitch(1);
        x.pitch(pitch);
        all.append(pitch).append(' ').append(x.fault()).append(' ');
        for (int sort = 0; sort < 6; sort++) {
            int grew = x.grew(sort, 0, 0);
            x.grew(sort, grew / 100, grew % 100);
            all.append(grew).append(' ');
        }
        for (int column = 0; column < x.count(0); column++) {
            for (int row = 0; row < x.count(1); row++) {
                int wear = x.wear(column, row, 1);
                x.wear(column, row, wear);
                int opening = x.opening(column, row, 0);
                if (opening > 0) {
                    x.opening(column, row, opening);
                }
                all.append(wear).append(opening).append(' ');
            }
        }
        for (int bundle = 0; bundle < x.count(2); bundle++) {
            for (int what = 0; what < 6; what++) {
                all.append(x.about(bundle, what)).append(' ');
            }
            for (int row = 0; row < x.count(1); row++) {
                all.append(x.left(bundle, row)).append(' ');
            }
        }
        return all.toString();
    }

    private static void makesNoObjects() {
        StrawCoats x = new StrawCoats();
        x.roof(6, 6);
        for (int k = 0; k < 36; k++) {
            x.lay(k / 6, k % 6, 2, k % 6, 9);
        }
        for (int sort = 0; sort < 6; sort++) {
            x.grew(sort, 10, 19);
        }
        x.strip(5, 1);
        askAll(x);
        ThreadMXBean threads = (ThreadMXBean) ManagementFactory.getThreadMXBean();
        long thread = Thread.currentThread().getId();
        threads.getThreadAllocatedBytes(thread);
        long before = threads.getThreadAllocatedBytes(thread);
        for (int k = 0; k < 100; k++) {
            askAll(x);
        }
        long made = threads.getThreadAllocatedBytes(thread) - before;
        DUE.holds("2,400 calls made " + made + " bytes", made < 4096);
    }

    private static void askAll(StrawCoats x) {
        x.offer(9, 9, 2, 9, 99);
        x.leaks();
        x.leakAt();
        x.fewest(0, 2);
        x.proof(0, 2, 63);
        x.clear(1);
        x.worst(2);
        x.burnt(0, 0, 0);
        x.ways(5);
        x.wrong();
        x.when(0, true);
        x.over(1, 0);
        x.heavy(0, 3);
        x.weight(0);
        x.drop(0, 5);
        x.way(0, 5, 3);
        x.wet(0, 0);
        x.off(0);
        x.keep(0);
        x.again(0);
        x.wipe();
        x.write(6, 0x423030313131L);
        x.fault();
        x.count(3);
    }
}
