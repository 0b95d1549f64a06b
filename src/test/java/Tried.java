import java.util.function.Supplier;
import java.util.function.ToIntFunction;

/** Tries calls that are refused, or that only tell: what they answer, and that nothing changes. */
final class Tried {
    /** A call by one of its numbers. */
    interface ByNumber {
        int on(ShaftPlay x, int v);
    }

    private Tried() {
    }

    static void refused(String what, int answer, Supplier<ShaftPlay> made, ToIntFunction<ShaftPlay> call) {
        changesAsTold(what, answer, made, call, made);
    }

    /** A call that changes nothing but as told: what it leaves is like that. */
    static void changesAsTold(String what, int answer, Supplier<ShaftPlay> made, ToIntFunction<ShaftPlay> call,
            Supplier<ShaftPlay> likeThat) {
        Due.is(what, call.applyAsInt(made.get()), answer);
        Due.same(what + ": the play then", View.ofPlay(behind(call, made)), View.ofPlay(likeThat.get()));
        Due.same(what + ": its image then", View.ofImage(behind(call, made)), View.ofImage(likeThat.get()));
        Due.same(what + ": tape and sheets then", View.ofTapeAndSheets(behind(call, made)),
            View.ofTapeAndSheets(likeThat.get()));
    }

    /** A number's least and greatest are taken; the first ones beyond them, and far ones, are BAD. */
    static void edges(String number, Supplier<ShaftPlay> made, int least, int greatest, ByNumber call) {
        edges(number, ShaftPlay.BAD, made, least, greatest, call);
    }

    static void edges(String number, int refusal, Supplier<ShaftPlay> made, int least, int greatest, ByNumber call) {
        taken(number + " " + least + ", the least", refusal, made, least, call);
        taken(number + " " + greatest + ", the greatest", refusal, made, greatest, call);
        for (int beyond : new int[] {least - 1, greatest + 1, Integer.MIN_VALUE, Integer.MAX_VALUE}) {
            refused(number + " " + beyond + ", beyond", refusal, made, x -> call.on(x, beyond));
        }
    }

    private static void taken(String what, int refusal, Supplier<ShaftPlay> made, int v, ByNumber call) {
        int answer = call.on(made.get(), v);
        Due.is(what + ", is taken (" + answer + ")", answer == refusal ? 0 : 1, 1);
    }

    private static ShaftPlay behind(ToIntFunction<ShaftPlay> call, Supplier<ShaftPlay> made) {
        ShaftPlay x = made.get();
        call.applyAsInt(x);
        return x;
    }
}
