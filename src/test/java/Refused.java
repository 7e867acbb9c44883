import java.util.function.Consumer;
import java.util.function.Supplier;
import java.util.function.ToIntFunction;

/** Calls that are refused: behind them an object answers like its twin, which was not asked. */
final class Refused {
    private Refused() {
    }

    /** A call that answers an error code changes nothing but account 1. */
    static void code(String call, int code, Supplier<SlipArchive> made, ToIntFunction<SlipArchive> asked) {
        SlipArchive x = made.get();
        SlipArchive twin = made.get();
        Due.same(call, code, asked.applyAsInt(x));
        Due.same("account(0) behind " + call, twin.account(0), x.account(0));
        Due.same("account(1) behind " + call, twin.account(1) + 1, x.account(1));
        Due.same("account(2) behind " + call, twin.account(2), x.account(2));
        Due.same("errorPosition() behind " + call, twin.errorPosition(), x.errorPosition());
        sameBuffer(call, twin, x);
        sameElse(call, twin, x);
    }

    static void noSuch(String call, Supplier<SlipArchive> made, Consumer<SlipArchive> asked) {
        SlipArchive x = made.get();
        Due.noSuch(call, () -> asked.accept(x));
        unchanged(call, made.get(), x);
    }

    static void illegal(String call, Supplier<SlipArchive> made, Consumer<SlipArchive> asked) {
        SlipArchive x = made.get();
        Due.illegal(call, () -> asked.accept(x));
        unchanged(call, made.get(), x);
    }

    /** Everything that can be asked is as with the twin. */
    static void unchanged(String call, SlipArchive twin, SlipArchive x) {
        Due.same("accounts behind " + call, Due.lasting(twin), Due.lasting(x));
        Due.same("errorPosition() behind " + call, twin.errorPosition(), x.errorPosition());
        sameBuffer(call, twin, x);
        sameElse(call, twin, x);
    }

    /** A text with an error changes the buffer and the error position alone, not even account 1. */
    static void text(String call, int code, int position, Supplier<SlipArchive> made, ToIntFunction<SlipArchive> asked) {
        SlipArchive x = made.get();
        SlipArchive twin = made.get();
        Due.same(call, code, asked.applyAsInt(x));
        Due.same("errorPosition() behind " + call, position, x.errorPosition());
        Due.same("the buffer is empty behind " + call, 20, x.feed(0, 0, 0, 0, 0));
        Due.same("accounts behind " + call, Due.lasting(twin), Due.lasting(x));
        sameElse(call, twin, x);
    }

    /** How many bytes there are, and what they are as far as an error in them tells. */
    private static void sameBuffer(String call, SlipArchive twin, SlipArchive x) {
        int bytes = twin.feed(0, 0, 0, 0, 0);
        Due.same("the buffer behind " + call, bytes, x.feed(0, 0, 0, 0, 0));
        Due.same("its text behind " + call, twin.load(bytes), x.load(bytes));
        Due.same("its error behind " + call, twin.errorPosition(), x.errorPosition());
    }

    private static void sameElse(String call, SlipArchive twin, SlipArchive x) {
        for (int index = 0; index < 20; index++) {
            Due.same("formattedByte(" + index + ") behind " + call, twin.formattedByte(index), x.formattedByte(index));
        }
        Due.same("state behind " + call, Due.state(twin), Due.state(x));
        int undo = twin.undoCount();
        Due.same("undoCount() behind " + call, undo, x.undoCount());
        for (int i = 0; i <= undo; i++) {
            Due.same("undo() behind " + call, twin.undo(), x.undo());
            Due.same("what undo() restores behind " + call, Due.brief(twin), Due.brief(x));
        }
        Due.same("restoreSnapshot() behind " + call, twin.restoreSnapshot() ? 1 : 0, x.restoreSnapshot() ? 1 : 0);
        Due.same("what it restores behind " + call, Due.brief(twin), Due.brief(x));
    }
}
