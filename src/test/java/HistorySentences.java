import java.util.function.ToIntFunction;

/** Promises 42 to 47, the text of format, undo and the snapshot: a sentence of the document with each test. */
final class HistorySentences {
    private static final int[] FAR = {Integer.MIN_VALUE, Integer.MAX_VALUE};

    private HistorySentences() {
    }

    static void ask() {
        format();
        formatOfAll();
        formattedByte();
        textOfFormatStays();
        recorded();
        eightOperations();
        goneForGood();
        undoRestores();
        undoLeaves();
        undoCount();
        undo();
        saveSnapshot();
        restoreSnapshot();
    }

    private static void format() {
        Sentence.of(42, "Formats the row as text: the MARKs of its folders, with ' ' between two, and '!' instead, if the pair is wrong; then '|' and"
            + " the MARKs on the trolley, with ' ' between two.");
        Due.same("an empty row and an empty trolley", "|", Due.formatted(Made.oneOut()));
        Due.same("one", "7|", Due.formatted(Made.one()));
        Due.same("two", "1 2|", Due.formatted(Due.made("archive 1 1 1 1;folder 1;folder 2;")));
        Due.same("two, wrong", "2!1|", Due.formatted(Due.made("archive 1 1 1 1;folder 2;folder 1;")));
        Due.same("a row and a trolley", "50!30 40|20", Due.formatted(Made.busy()));
        SlipArchive trolley = Made.oneOut();
        trolley.giveBack(0);
        Due.same("an empty row and a trolley", "|7", Due.formatted(trolley));
        // on the trolley there are no pairs
        SlipArchive two = Due.made("archive 9 6 1 5;folder 8;folder 9;folder 10;");
        Due.play(two, "slip 0 8;slip 0 9;day 1;return 9;return 8;");
        Due.same("a trolley out of order", "10|9 8", Due.formatted(two));
        String[] numbers = {"0", "1", "9", "10", "99", "100", "101", "110", "999", "1000", "1001", "1010", "9999"};
        for (String number : numbers) {
            Due.same("the MARK " + number, number + "|", Due.formatted(Due.made("archive 1 1 1 1;folder " + number + ";")));
        }
    }

    private static void formatOfAll() {
        Sentence.of(42, "Returns the number of bytes of the text.");
        Due.same("of the empty text", 1, Made.oneOut().format());
        Due.same("of one", 2, Made.one().format());
        Due.same("of a full row", 120, Made.full().format());
        Due.same("of a full trolley", 120, Made.fullTrolley().format());
        StringBuilder row = new StringBuilder();
        StringBuilder reversed = new StringBuilder();
        StringBuilder trolley = new StringBuilder("|");
        for (int i = 0; i < 24; i++) {
            row.append(i > 0 ? " " : "").append(9000 + i);
            reversed.append(i > 0 ? "!" : "").append(9999 - i);
            trolley.append(i > 0 ? " " : "").append(9023 - i);
        }
        Due.same("a full row", row + "|", Due.formatted(Made.full()));
        Due.same("a full row, reversed", reversed + "|", Due.formatted(Made.reversed()));
        Due.same("a full trolley", trolley.toString(), Due.formatted(Made.fullTrolley()));
    }

    private static void formattedByte() {
        Sentence.of(43, "NONE if index is out of range or there was no such call.");
        SlipArchive x = Made.one();
        for (int index : new int[] {0, 1, -1, FAR[0], FAR[1]}) {
            Due.same("formattedByte(" + index + ") ahead of format", -1, x.formattedByte(index));
        }
        Due.same("format()", 2, x.format());
        Due.same("formattedByte(0)", '7', x.formattedByte(0));
        Due.same("formattedByte(1)", '|', x.formattedByte(1));
        for (int index : new int[] {2, 3, -1, 120, FAR[0], FAR[1]}) {
            Due.same("formattedByte(" + index + ")", -1, x.formattedByte(index));
        }
        SlipArchive full = Made.full();
        full.format();
        Due.same("formattedByte(119)", '|', full.formattedByte(119));
        Due.same("formattedByte(120)", -1, full.formattedByte(120));
        Due.load(full, "archive 1 1 1 1;folder 7;");
        full.format();
        Due.same("of a shorter text", -1, full.formattedByte(2));
    }

    private static void textOfFormatStays() {
        Sentence.of(43, "Returns the byte at index of the text of the most recent call of format, as it was then (also after load, undo and"
            + " restoreSnapshot);");
        SlipArchive x = new SlipArchive();
        x.saveSnapshot();
        x.misfile(0, 4);
        x.format();
        String due = "20 30 50!40!10|";
        stays(x, "behind format", due);
        x.misfile(0, 0);
        stays(x, "behind misfile", due);
        x.undo();
        x.undo();
        stays(x, "behind undo", due);
        Due.yes("restored", x.restoreSnapshot());
        stays(x, "behind restoreSnapshot", due);
        Due.load(x, "archive 1 1 1 1;folder 7;");
        stays(x, "behind load", due);
        Due.load(x, "archive");
        Due.play(x, "day 1;");
        x.servedBy(9);
        stays(x, "behind other calls", due);
        x.format();
        stays(x, "behind another format", "7|");
    }

    private static void stays(SlipArchive x, String when, String due) {
        for (int index = 0; index < due.length(); index++) {
            Due.same("formattedByte(" + index + ") " + when, due.charAt(index), x.formattedByte(index));
        }
        Due.same("formattedByte(" + due.length() + ") " + when, -1, x.formattedByte(due.length()));
    }

    private static void recordedBy(String name, ToIntFunction<SlipArchive> operation) {
        SlipArchive x = Due.made("archive 9 1 2 2;folder 1;folder 2;folder 3;");
        Due.play(x, "slip 0 1;slip 1 2;day 1;");
        Due.yes(name + " is done", operation.applyAsInt(x) >= 0);
        Due.same("undoCount() behind " + name, 2, x.undoCount());
        Due.same("undo() of " + name, 1, x.undo());
    }

    private static void recorded() {
        Sentence.of(Sentence.TERMS, "slip, dropSlip, giveBack, days, misfile, straighten, check, setEmbargo and play are operations.");
        recordedBy("slip", x -> x.slip(0, 1));
        recordedBy("dropSlip", x -> x.dropSlip(0));
        recordedBy("giveBack", x -> x.giveBack(0));
        recordedBy("days", x -> x.days(1));
        recordedBy("misfile", x -> x.misfile(1, 1));
        recordedBy("straighten", x -> x.straighten(1));
        recordedBy("check", x -> x.check(1));
        recordedBy("setEmbargo", x -> x.setEmbargo(0, 9));
        recordedBy("play", x -> Due.play(x, "slip 0 2;day 1;"));
        SlipArchive other = Made.one();
        other.saveSnapshot();
        other.format();
        other.feed(0, 0, 0, 0, 0);
        other.undo();
        Due.same("other calls are none", 0, other.undoCount());
        Sentence.of(Sentence.TERMS, "Every successful call is recorded, even if it changes nothing.");
        recordedBy("misfile to its own place", x -> x.misfile(1, 0));
        recordedBy("straighten of one that stands right", x -> x.straighten(2));
        recordedBy("check of a row in order", x -> x.check(99));
        recordedBy("setEmbargo to what it is", x -> x.setEmbargo(0, 0));
        recordedBy("play of no orders", x -> x.play(0));
        recordedBy("play of an order that is refused", x -> Due.play(x, "drop 9;"));
        recordedBy("play of an order that would throw", x -> Due.play(x, "return 9;"));
    }

    private static void eightOperations() {
        Sentence.of(Sentence.TERMS, "The 8 most recent operations can be undone, the most recent one first;");
        for (int many : new int[] {0, 1, 7, 8, 9, 16, 17, 18, 19, 40}) {
            SlipArchive x = Made.one();
            for (int i = 0; i < many; i++) {
                x.days(1);
            }
            int kept = Math.min(many, 8);
            Due.same("undoCount() behind " + many, kept, x.undoCount());
            for (int i = 1; i <= kept; i++) {
                Due.same("undo() behind " + many, kept - i, x.undo());
                Due.same("DAY behind it", many - i, x.size(0));
            }
            Due.same("no more", -1, x.undo());
            Due.same("DAY", many - kept, x.size(0));
        }
        Sentence.of(Sentence.TERMS, "a play is one operation.");
        SlipArchive x = Made.one();
        for (int i = 0; i < 8; i++) {
            Due.play(x, "day 1;day 1;day 1;");
        }
        for (int left = 7; left >= 0; left--) {
            Due.same("undo() of a play", left, x.undo());
            Due.same("DAY behind it", left * 3, x.size(0));
        }
        Due.play(x, "day 1;day 1;drop 0;day 1;");
        Due.same("one that ends early", 1, x.undoCount());
        Due.same("its undo()", 0, x.undo());
        Due.same("DAY behind it", 0, x.size(0));
    }

    private static void goneForGood() {
        Sentence.of(Sentence.TERMS, "an operation that falls out of these is gone for good;");
        SlipArchive x = Made.one();
        for (int i = 0; i < 9; i++) {
            x.days(1);
        }
        for (int i = 0; i < 8; i++) {
            x.undo();
        }
        Due.same("undo() of the ninth", -1, x.undo());
        Due.same("DAY", 1, x.size(0));
        x.days(1);
        Due.same("one more", 1, x.undoCount());
        x.undo();
        Due.same("and no more", -1, x.undo());
        // what was undone is gone, too: the next operation takes its place
        x.days(2);
        x.days(3);
        x.undo();
        x.days(5);
        Due.same("undo()", 1, x.undo());
        Due.same("DAY", 3, x.size(0));
        Due.same("undo()", 0, x.undo());
        Due.same("DAY", 1, x.size(0));
        // a call that is refused puts none out
        SlipArchive full = Made.one();
        for (int i = 0; i < 8; i++) {
            full.days(1);
        }
        full.dropSlip(0);
        full.giveBack(0);
        Due.play(full, "day");
        Due.illegal("days(0)", () -> full.days(0));
        for (int left = 7; left >= 0; left--) {
            Due.same("undo()", left, full.undo());
            Due.same("DAY", left, full.size(0));
        }
    }

    private static void undone(String name, ToIntFunction<SlipArchive> operation) {
        SlipArchive x = Due.made("archive 4 6 3 2;folder 50;folder 10;folder 40 until 5;folder 20;folder 30;");
        Due.play(x, "slip 0 10;slip 1 20;slip 2 30;slip 0 40;day 3;return 10;slip 2 20;slip 2 10;");
        String state = Due.state(x);
        String row = Due.formatted(x);
        Due.yes(name + " is done", operation.applyAsInt(x) >= 0);
        Due.same("undo() of " + name, 1, x.undo());
        Due.same("the state behind undo of " + name, state, Due.state(x));
        Due.same("the row behind undo of " + name, row, Due.formatted(x));
    }

    private static void undoRestores() {
        Sentence.of(Sentence.TERMS, "Undoing restores everything that the operation changed,");
        undone("slip", x -> x.slip(1, 2));
        undone("dropSlip of the first", x -> x.dropSlip(0));
        undone("dropSlip of the last", x -> x.dropSlip(x.size(9) - 1));
        undone("giveBack", x -> x.giveBack(3));
        undone("one day, which refiles", x -> x.days(1));
        undone("60 days", x -> x.days(60));
        undone("misfile", x -> x.misfile(0, 0));
        undone("misfile to the end", x -> x.misfile(0, x.size(6) - 1));
        undone("straighten", x -> x.straighten(2));
        undone("check", x -> x.check(99));
        undone("setEmbargo", x -> x.setEmbargo(2, 999));
        undone("a play of each order", x -> Due.play(x, "slip 1 40;drop 0;return 20;day 4;until 50 30;check 3;day 60;check 1;"));
        SlipArchive x = Made.fullTrolley();
        String state = Due.state(x);
        x.days(9);
        Due.same("a full trolley is refiled", 24, x.size(6));
        x.undo();
        Due.same("undo of it", state, Due.state(x));
    }

    private static void undoLeaves() {
        Sentence.of(Sentence.TERMS, "but not the buffer, the error position, the text of format, accounts 0 to 2 and the snapshot.");
        SlipArchive x = Made.one();
        x.days(1);
        x.saveSnapshot();
        x.days(1);
        x.dropSlip(0);
        x.days(1);
        Due.load(x, "archive 0");
        Due.feed(x, "day 4;");
        x.format();
        x.undo();
        Due.same("DAY", 2, x.size(0));
        Due.same("accounts 0 to 2", "3 1 1", Due.lasting(x));
        Due.same("the error position", 8, x.errorPosition());
        Due.same("the text of format", '|', x.formattedByte(1));
        x.undo();
        x.undo();
        Due.same("DAY", 0, x.size(0));
        Due.same("accounts 0 to 2", "3 1 3", Due.lasting(x));
        Due.same("the buffer", 1, x.play(6));
        Due.same("DAY", 4, x.size(0));
        Due.yes("the snapshot", x.restoreSnapshot());
        Due.same("its DAY", 1, x.size(0));
    }

    private static void undoCount() {
        Sentence.of(44, "Returns the number of operations that can be undone.");
        SlipArchive x = Made.one();
        Due.same("of none", 0, x.undoCount());
        for (int i = 1; i <= 10; i++) {
            x.days(1);
            Due.same("behind " + i, Math.min(i, 8), x.undoCount());
        }
        x.undo();
        Due.same("behind undo", 7, x.undoCount());
        x.dropSlip(0);
        Due.same("behind a call that was refused", 7, x.undoCount());
        Due.load(x, "archive");
        Due.same("behind a text with an error", 7, x.undoCount());
        Due.load(x, "archive 1 1 1 1;folder 7;");
        Due.same("behind a text", 0, x.undoCount());
    }

    private static void undo() {
        Sentence.of(45, "Returns the number of operations that can still be undone;");
        SlipArchive x = Made.one();
        x.days(1);
        x.days(1);
        Due.same("one can", 1, x.undo());
        Due.same("none can", 0, x.undo());
        Sentence.of(45, "NONE if there was nothing to undo.");
        String state = Due.state(x);
        for (int i = 0; i < 10; i++) {
            Due.same("nothing to undo", -1, x.undo());
        }
        Due.same("nothing changed", state, Due.state(x));
        Due.same("not even account 2", "2 0 2", Due.lasting(x));
        Due.same("of a new object", -1, new SlipArchive().undo());
        x.days(7);
        Due.same("undo still works", 0, x.undo());
        Due.same("DAY", 0, x.size(0));
    }

    private static void saveSnapshot() {
        Sentence.of(46, "Saves a snapshot of everything that undoing restores.");
        SlipArchive x = Made.busy();
        x.load(0);
        String state = Due.state(x);
        String row = Due.formatted(x);
        x.saveSnapshot();
        Due.same("it is no operation", 8, x.undoCount());
        Due.same("it is not counted", "9 0 0", Due.lasting(x));
        Due.play(x, "slip 0 50;drop 0;return 10;day 9;misfile 30 0;check 9;until 10 99;");
        Due.yes("restored", x.restoreSnapshot());
        Due.same("the state", state, Due.state(x));
        Due.same("the row", row, Due.formatted(x));
        Sentence.of(46, "It replaces an earlier snapshot.");
        x.days(2);
        x.saveSnapshot();
        x.days(3);
        x.restoreSnapshot();
        Due.same("the DAY of the later one", 3, x.size(0));
    }

    private static void restoreSnapshot() {
        Sentence.of(47, "Restores the snapshot and clears the undo history. The snapshot is kept.");
        SlipArchive x = Made.one();
        x.days(1);
        x.saveSnapshot();
        for (int i = 0; i < 3; i++) {
            x.days(5);
            x.slip(0, 0);
            Due.yes("restored", x.restoreSnapshot());
            Due.same("DAY", 1, x.size(0));
            Due.same("slips", 0, x.size(9));
            Due.same("undoCount()", 0, x.undoCount());
            Due.same("undo()", -1, x.undo());
        }
        Due.same("accounts 0 to 2 stay", "7 0 0", Due.lasting(x));
        x.days(1);
        Due.same("undo of what came behind it", 0, x.undo());
        Due.same("DAY", 1, x.size(0));
        Sentence.of(47, "Returns true; false if there is no snapshot (nothing changes).");
        SlipArchive none = Made.one();
        none.days(1);
        none.days(1);
        String state = Due.state(none);
        Due.yes("there is none", !none.restoreSnapshot());
        Due.same("nothing changed", state, Due.state(none));
        Due.same("undoCount()", 2, none.undoCount());
        Due.same("undo()", 1, none.undo());
        none.saveSnapshot();
        Due.load(none, "archive 1 1 1 1;folder 8;");
        Due.yes("a text discards it", !none.restoreSnapshot());
        Due.same("MARK", 8, none.folder(0, 0));
        none.saveSnapshot();
        Due.load(none, "archive 1 1 1 1;folder 8");
        Due.yes("a text with an error does not", none.restoreSnapshot());
    }
}
