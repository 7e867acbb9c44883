/** Promises 42 to 47: texts, undo and the snapshot. */
final class UndoTest {
    public static void main(String[] args) {
        format();
        undo();
        undoEach();
        redoAfterUndo();
        snapshot();
        keptThings();
        Due.end();
    }

    private static void format() {
        SlipArchive x = new SlipArchive();
        Due.same("formattedByte ahead of format", -1, x.formattedByte(0));
        Due.same("format()", 15, x.format());
        Due.same("a new row", "10 20 30 50!40|", Due.formatted(x));
        Due.same("formattedByte(15)", -1, x.formattedByte(15));
        Due.same("formattedByte(-1)", -1, x.formattedByte(-1));
        Due.same("formattedByte(max)", -1, x.formattedByte(Integer.MAX_VALUE));
        x.slip(0, 0);
        x.slip(0, 1);
        x.days(1);
        Due.same("the text stands as it was", '2', x.formattedByte(3));
        x.giveBack(0);
        x.giveBack(1);
        Due.same("format() with a trolley", 14, x.format());
        Due.same("a trolley", "30 50!40|10 20", Due.formatted(x));
        Due.same("a shorter text", -1, x.formattedByte(14));
        x.saveSnapshot();
        x.undo();
        x.restoreSnapshot();
        Due.load(x, "archive 9 1 1 1;folder 9;");
        Due.same("the text stands behind load, undo and restoreSnapshot", '1', x.formattedByte(9));
        Due.same("one folder", "9|", Due.formatted(x));
        x.slip(0, 0);
        x.days(1);
        Due.same("an empty row", "|", Due.formatted(x));
        x.giveBack(0);
        Due.same("an empty row and a trolley", "|9", Due.formatted(x));
        Due.same("numbers of all lengths", "0 10 100!7 1000 9999!9099|",
            Due.formatted(Due.made("archive 1 1 1 1;folder 0;folder 10;folder 100;folder 7;folder 1000;folder 9999;"
                + "folder 9099;")));
        StringBuilder text = new StringBuilder("archive 1 1 1 1;");
        for (int mark = 9999; mark > 9975; mark--) {
            text.append("folder ").append(mark).append(';');
        }
        SlipArchive y = Due.made(text.toString());
        Due.same("the longest text", 120, y.format());
        Due.same("its last byte", '|', y.formattedByte(119));
    }

    private static void undo() {
        SlipArchive x = Made.one();
        Due.same("undo of nothing", -1, x.undo());
        Due.same("account(2)", 0, x.account(2));
        String[] states = new String[11];
        for (int i = 0; i < 11; i++) {
            states[i] = Due.brief(x);
            x.days(i + 1);
            Due.same("undoCount", Math.min(i + 1, 8), x.undoCount());
        }
        x.days(60);
        x.dropSlip(0);
        Due.same("undo", 7, x.undo());
        for (int i = 10; i > 3; i--) {
            Due.same("undo", i - 4, x.undo());
            Due.same("state " + i, states[i], Due.brief(x));
        }
        Due.same("gone for good", -1, x.undo());
        Due.same("accounts", "12 1 8", Due.lasting(x));
    }

    /** Each operation, with all that it changes, is taken back; each time by an object that has recorded none like it. */
    private static void undoEach() {
        undoOf("slip", x -> x.slip(1, 2));
        undoOf("dropSlip", x -> x.dropSlip(0));
        undoOf("giveBack", x -> x.giveBack(0));
        undoOf("days(1)", x -> x.days(1));
        undoOf("days(60)", x -> x.days(60));
        undoOf("misfile", x -> x.misfile(3, 0));
        undoOf("straighten", x -> x.straighten(3));
        undoOf("check", x -> x.check(9));
        undoOf("setEmbargo", x -> x.setEmbargo(3, 77));
        undoOf("play", x -> Due.play(x, "return 30;day 1;slip 1 50;until 10 0;day 5;check 1;misfile 20 0;"));
    }

    private static void undoOf(String name, java.util.function.ToIntFunction<SlipArchive> operation) {
        SlipArchive x = Due.made("archive 2 2 3 2;folder 30;folder 10 until 3;folder 50;folder 20;folder 40;");
        Due.play(x, "slip 0 30;slip 0 10;slip 1 40;slip 2 30;day 1;");
        String state = Due.state(x);
        String row = Due.formatted(x);
        Due.yes(name + " is done", operation.applyAsInt(x) >= 0);
        Due.yes(name + " changes something", !state.equals(Due.state(x)));
        Due.same("undo of " + name, 1, x.undo());
        Due.same("state behind undo of " + name, state, Due.state(x));
        Due.same("row behind undo of " + name, row, Due.formatted(x));
    }

    private static void redoAfterUndo() {
        SlipArchive x = new SlipArchive();
        x.slip(0, 0);
        x.slip(0, 1);
        x.undo();
        x.slip(1, 3);
        Due.same("undoCount", 2, x.undoCount());
        x.undo();
        Due.same("one slip waits", 1, x.size(9));
        x.undo();
        Due.same("none waits", 0, x.size(9));
        Due.same("account(3) is taken back", 0, x.account(3));
        Due.same("accounts 0 to 2 are not", "3 0 3", Due.lasting(x));
        for (int i = 0; i < 8; i++) {
            x.days(1);
        }
        Due.same("a refused call with a full history", -2, x.dropSlip(0));
        Due.illegal("an exception with a full history", () -> x.check(0));
        for (int i = 7; i >= 0; i--) {
            Due.same("undo", i, x.undo());
            Due.same("DAY", i, x.size(0));
        }
    }

    private static void snapshot() {
        SlipArchive x = new SlipArchive();
        Due.yes("no snapshot", !x.restoreSnapshot());
        x.slip(0, 0);
        Due.yes("still no snapshot", !x.restoreSnapshot());
        Due.same("nothing changed", 1, x.undoCount());
        x.days(1);
        x.saveSnapshot();
        Due.same("saving is no operation", 2, x.undoCount());
        String state = Due.state(x);
        x.giveBack(0);
        x.slip(1, 0);
        x.misfile(3, 0);
        x.setEmbargo(1, 9);
        x.days(5);
        Due.yes("restored", x.restoreSnapshot());
        Due.same("state behind it", state, Due.state(x));
        Due.same("the history is cleared", 0, x.undoCount());
        Due.same("nothing to undo", -1, x.undo());
        Due.same("accounts 0 to 2 stay", "7 0 0", Due.lasting(x));
        x.days(2);
        Due.same("undo behind it", 0, x.undo());
        Due.same("state behind undo", state, Due.state(x));
        x.days(3);
        Due.yes("the snapshot is kept", x.restoreSnapshot());
        Due.same("state behind it again", state, Due.state(x));
        x.days(4);
        String later = Due.state(x);
        x.saveSnapshot();
        x.undo();
        Due.same("undo leaves the snapshot", state, Due.state(x));
        Due.yes("the later snapshot", x.restoreSnapshot());
        Due.same("a snapshot replaces an earlier one", later, Due.state(x));
    }

    private static void keptThings() {
        SlipArchive x = new SlipArchive();
        x.slip(0, 0);
        x.saveSnapshot();
        x.slip(0, 0);
        Due.load(x, "archive 0");
        Due.feed(x, "day 1;");
        x.format();
        x.undo();
        Due.same("undo leaves the buffer", 1, x.play(6));
        Due.feed(x, "day 1;");
        x.restoreSnapshot();
        Due.same("restoreSnapshot leaves the buffer", 40, x.feed(0, 0, 0, 0, 0));
        Due.same("and the text of format", '!', x.formattedByte(11));
        Due.same("and accounts 0 to 2", "2 1 1", Due.lasting(x));
        Due.same("the slip is back", 1, x.size(9));
        Due.same("DAY is back", 0, x.size(0));
    }
}
