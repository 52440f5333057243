import java.util.Arrays;

/** All promises: long runs of calls, each answered by StrawCoats as by PlainRoof. */
public final class AgainstPlainTest {
    private static final Due DUE = new Due("AgainstPlainTest");
    private static final int CALLS = 512;

    public static void main(String[] args) throws ReflectiveOperationException {
        int runs = args.length > 1 ? Integer.parseInt(args[1]) : 400;
        for (int run = 0; run < runs && DUE.wrong() == 0; run++) {
            run(run);
        }
        DUE.end();
    }

    private static void run(int run) throws ReflectiveOperationException {
        int[] state = {4, 4, 0};
        Calls calls = new Calls(run * 7919L + 17, state);
        StrawCoats asked = new StrawCoats();
        PlainRoof plain = new PlainRoof();
        int wrongOneIn = run % 3 == 0 ? 8 : 60;
        StringBuilder told = new StringBuilder();
        for (int k = 0; k < CALLS - 3 && DUE.wrong() == 0; k++) {
            Object[] call = k == 0 ? new Object[] {"roof", 1 + calls.below(6), 1 + calls.below(6)}
                    : k == 1 && run % 2 == 0 ? new Object[] {"pitch", 1 + calls.below(3)}
                    : k < 8 && run % 4 < 3 ? new Object[] {"opening", calls.below(6), calls.below(6), calls.below(3)}
                    : calls.next(wrongOneIn);
            told.append(Arrays.toString(call)).append('\n');
            Number want = (Number) calls.answer(plain, call);
            Number got = (Number) calls.answer(asked, call);
            DUE.is("run " + run + ", " + Arrays.toString(call), got.longValue(), want.longValue());
            state[0] = plain.count(0);
            state[1] = plain.count(1);
            state[2] = plain.count(2);
        }
        if (DUE.wrong() != 0) {
            System.out.println(told);
        }
    }
}
