import java.lang.reflect.Method;
import java.util.ArrayDeque;
import java.util.ArrayList;
import java.util.Deque;
import java.util.List;

/** Makes runs of calls: ordinary arguments for the most part, wrong ones now and then. */
final class Calls {
    /** Each call with the kinds of its arguments, and how often it comes. */
    private static final String[] FACE = {
        "roof 1 X X", "pitch 2 3", "wear 6 C R 3", "opening 6 C R O", "lay 20 C R 3 S 9", "strip 1 C 9",
        "about 4 B 5", "left 4 B R", "top 4 C R", "depth 4 C R O", "drop 8 C R", "way 12 C R I", "wet 6 C R",
        "dry 4", "off 6 C", "years 1 Y", "leaks 4", "leakAt 4", "weight 4 C", "heavy 4 C W", "fewest 5 C 3",
        "proof 6 C 3 M", "grew 6 S F T", "over 6 B B", "when 8 B L", "wrong 5", "ways 6 C", "burnt 6 C R 4",
        "worst 4 4", "clear 4 4", "offer 4 P P 3 9 H", "write 8 N V", "wipe 2", "fault 4", "done 2", "keep 3 1",
        "again 3 1", "count 6 5"};

    private final int[] state;
    private final List<Method> methods = new ArrayList<>();
    private final List<String> specs = new ArrayList<>();
    private final Deque<Object[]> ahead = new ArrayDeque<>();
    private long seed;

    /** state: how many columns, rows and bundles there are, by what was answered last. */
    Calls(long seed, int[] state) {
        this.seed = seed;
        this.state = state;
        for (String spec : FACE) {
            String[] parts = spec.split(" ");
            for (int k = 0; k < Integer.parseInt(parts[1]); k++) {
                specs.add(spec);
            }
        }
    }

    static List<String> names() {
        List<String> names = new ArrayList<>();
        for (String spec : FACE) {
            names.add(spec.split(" ")[0]);
        }
        return names;
    }

    int below(int bound) {
        seed = seed * 6364136223846793005L + 1442695040888963407L;
        return (int) ((seed >>> 33) % bound);
    }

    /** A call: its name, then its arguments. */
    Object[] next(int wrongOneIn) {
        if (ahead.isEmpty() && below(90) == 0) {
            planRoof();
        }
        if (ahead.isEmpty() && below(60) == 0) {
            planSorts();
        }
        return ahead.isEmpty() ? anyCall(wrongOneIn) : ahead.remove();
    }

    /** Another roof, thatched well for the most part: by chance alone hardly one is ever dry. */
    private void planRoof() {
        int columns = 1 + below(6);
        int rows = 1 + below(6);
        ahead.add(new Object[] {"roof", columns, rows});
        ahead.add(new Object[] {"pitch", 1 + below(3)});
        for (int k = below(4); k > 0; k--) {
            ahead.add(new Object[] {"opening", below(columns), below(rows), below(3)});
            ahead.add(new Object[] {"wear", below(columns), below(rows), 1 + below(3)});
        }
        int length = 1 + below(3);
        for (int column = 0; column < columns; column++) {
            for (int row = 0; row < rows; row++) {
                if (below(12) > 0 && (row == rows - 1 || length < 3 || below(3) > 0)) {
                    ahead.add(new Object[] {"lay", column, row, length, below(6), 1 + below(9)});
                }
            }
        }
        ahead.add(new Object[] {"dry"});
        ahead.add(new Object[] {"leakAt"});
        ahead.add(new Object[] {"keep", below(2)});
    }

    /** Few years for each sort, near to one another. */
    private void planSorts() {
        for (int sort = 0; sort < 6; sort++) {
            int from = 40 + below(8);
            ahead.add(new Object[] {"grew", sort, from, from + below(11)});
        }
        ahead.add(new Object[] {"strip", below(state[0]), 1 + below(2)});
        ahead.add(new Object[] {"wrong"});
        for (int column = 0; column < state[0]; column++) {
            ahead.add(new Object[] {"ways", column});
        }
        for (int bundle = 0; bundle < state[2]; bundle++) {
            ahead.add(new Object[] {"when", bundle, bundle % 2 == 0});
        }
    }

    private Object[] anyCall(int wrongOneIn) {
        String[] parts = specs.get(below(specs.size())).split(" ");
        Object[] call = new Object[parts.length - 1];
        call[0] = parts[0];
        for (int k = 2; k < parts.length; k++) {
            call[k - 1] = argument(parts[k].charAt(0), wrongOneIn);
        }
        if (call[0].equals("write")) {
            tell(call, wrongOneIn);
        }
        return call;
    }

    private Object argument(char kind, int wrongOneIn) {
        if (kind == 'L') {
            return below(2) == 0;
        }
        if (kind == 'V') {
            return (long) below(1 << 30) << 34 ^ below(1 << 30);
        }
        boolean wrong = below(wrongOneIn) == 0;
        switch (kind) {
            case 'C':
                return number(0, state[0] - 1, wrong);
            case 'R':
                return number(0, state[1] - 1, wrong);
            case 'B':
                return number(0, Math.max(0, state[2] - 1), wrong);
            case 'X':
                return number(1, 6, wrong);
            case 'O':
                return number(0, 2, wrong);
            case 'S':
                return number(0, 5, wrong);
            case 'I':
                return number(0, 9, wrong);
            case 'Y':
                return number(1, below(20) == 0 ? 99 : 3, wrong);
            case 'W':
                return number(0, below(2) == 0 ? 999 : 60, wrong);
            case 'M':
                return number(0, (1 << state[1]) - 1, wrong);
            case 'F':
                return number(0, 40, wrong);
            case 'T':
                return number(30, below(2) == 0 ? 99 : 45, wrong);
            case 'P':
                return number(0, 99, wrong);
            case 'H':
                return number(1, 99, wrong);
            case 'N':
                return number(1, 8, wrong);
            default:
                return number(kind == '4' || kind == '1' || kind == '5' ? 0 : 1, kind - '0', wrong);
        }
    }

    private int number(int low, int high, boolean wrong) {
        if (!wrong) {
            return low + below(high - low + 1);
        }
        int[] odd = {low - 1, high + 1, -1, Integer.MIN_VALUE, Integer.MAX_VALUE, low - 9 + below(20), below(300) - 99};
        return odd[below(odd.length)];
    }

    /** Most of what is written is a part of a history. */
    private void tell(Object[] call, int wrongOneIn) {
        if (below(wrongOneIn) == 0) {
            return;
        }
        String part = "B" + argument('C', wrongOneIn) + argument('R', wrongOneIn) + (1 + below(3)) + below(6) + (1 + below(9));
        if (below(3) == 0) {
            part = "Y" + (1 + below(below(9) + 1));
        } else if (below(3) == 0) {
            part = "S" + argument('C', wrongOneIn) + (1 + below(9));
        }
        long v = 0x1234;
        for (int i = 0; i < part.length(); i++) {
            v = v << 8 | part.charAt(i);
        }
        call[1] = Math.min(8, part.length());
        call[2] = v;
    }

    /** Answers a call on an object that has a method of that name. */
    Object answer(Object object, Object[] call) throws ReflectiveOperationException {
        for (Method m : methods) {
            if (m.getDeclaringClass() == object.getClass() && m.getName().equals(call[0])) {
                return m.invoke(object, java.util.Arrays.copyOfRange(call, 1, call.length));
            }
        }
        for (Method m : object.getClass().getMethods()) {
            if (m.getName().equals(call[0]) && m.getDeclaringClass() == object.getClass()) {
                methods.add(m);
                return answer(object, call);
            }
        }
        throw new NoSuchMethodException(call[0] + " of " + object.getClass());
    }
}
