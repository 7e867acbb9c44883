/** Promises 33 to 41, operations: a sentence of the document with each test. */
final class OperationSentences {
    private static final int[] FAR = {Integer.MIN_VALUE, Integer.MAX_VALUE};

    private OperationSentences() {
    }

    static void ask() {
        slip();
        slipCodes();
        dropSlip();
        giveBack();
        days();
        daysCode();
        misfile();
        misfileCodes();
        straighten();
        check();
        setEmbargo();
        play();
        playOrders();
        playErrors();
        playCodes();
    }

    private static void slip() {
        Sentence.of(33, "Returns its place;");
        SlipArchive x = Made.full();
        for (int place = 0; place < 16; place++) {
            Due.same("slip " + place, place, x.slip(place / 2, 23 - place));
        }
        Due.same("the folder of the last one", 8, x.waiting(15, 1));
        SlipArchive last = Made.onDay(999);
        Due.same("on DAY 999", 0, last.slip(7, 0));
        Due.same("handed in on it", 999, last.waiting(0, 2));
        // for a folder that is closed, with another reader, on the trolley, or for a reader with LIMIT folders
        SlipArchive idle = Made.busy();
        Due.same("one that is closed", 3, idle.slip(0, 2));
        Due.same("one that another has", 4, idle.slip(1, 0));
        Due.same("one on the trolley", 5, idle.slip(1, 1));
        SlipArchive limit = Due.made("archive 9 1 1 1;folder 1;folder 2;");
        Due.play(limit, "slip 0 1;day 1;");
        Due.same("of a reader with LIMIT folders", 0, limit.slip(0, 1));
        Sentence.of(33, "Throws NoSuchElementException if there is no such reader or folder");
        for (int[] pair : new int[][] {{-1, 0}, {2, 0}, {8, 0}, {FAR[0], 0}, {FAR[1], 0}, {0, -1}, {0, 5}, {0, 24}, {0, FAR[0]},
            {0, FAR[1]}, {2, 5}, {-1, -1}}) {
            Refused.noSuch("slip(" + pair[0] + ", " + pair[1] + ")", Made::busy, y -> y.slip(pair[0], pair[1]));
        }
        Refused.noSuch("slip(8, 2) with 16 slips", Made::fullSlips, y -> y.slip(8, 2));
        Refused.noSuch("slip(7, 3) with 16 slips", Made::fullSlips, y -> y.slip(7, 3));
        Refused.noSuch("slip(0, 24) of 24", Made::full, y -> y.slip(0, 24));
        Refused.noSuch("slip(1, 0) of one", Made::one, y -> y.slip(1, 0));
        Refused.noSuch("slip(0, 1) of one", Made::one, y -> y.slip(0, 1));
    }

    private static SlipArchive oneOutOfFullSlips() {
        SlipArchive x = Due.made("archive 14 6 8 5;folder 0;folder 1 until 999;folder 2 until 999;folder 3 until 999;");
        Due.play(x, "slip 0 0;day 1;");
        StringBuilder slips = new StringBuilder();
        for (int i = 0; i < 16; i++) {
            slips.append("slip ").append(i / 2).append(' ').append(i % 2 + 1).append(';');
        }
        Due.play(x, slips.toString());
        return x;
    }

    private static void slipCodes() {
        Sentence.of(33, "-2 if the reader has this folder, -3 if a slip of this reader for it waits, -4 if 16 slips wait.");
        Refused.code("slip(0, 0)", -2, Made::busy, x -> x.slip(0, 0));
        Refused.code("slip(0, 4)", -3, Made::busy, x -> x.slip(0, 4));
        Refused.code("slip(1, 4)", -3, Made::busy, x -> x.slip(1, 4));
        Refused.code("slip(1, 2)", -3, Made::busy, x -> x.slip(1, 2));
        Refused.code("slip(0, 2) with 16 slips", -4, Made::fullSlips, x -> x.slip(0, 2));
        Refused.code("slip(7, 2) with 16 slips", -4, Made::fullSlips, x -> x.slip(7, 2));
        Refused.code("slip(7, 1) with 16 slips: it waits", -3, Made::fullSlips, x -> x.slip(7, 1));
        Refused.code("slip(0, 0) with 16 slips: the reader has it", -2, OperationSentences::oneOutOfFullSlips, x -> x.slip(0, 0));
        Refused.code("slip(1, 0) with 16 slips: another has it", -4, OperationSentences::oneOutOfFullSlips, x -> x.slip(1, 0));
        SlipArchive x = Made.fullSlips();
        x.dropSlip(15);
        Due.same("with 15 slips", 15, x.slip(0, 2));
        // the folder came back, or the slip is gone: both may be asked for again
        SlipArchive again = Made.oneOut();
        again.giveBack(0);
        Due.same("behind giveBack", 0, again.slip(0, 0));
        again.dropSlip(0);
        Due.same("behind dropSlip", 0, again.slip(0, 0));
    }

    private static void dropSlip() {
        Sentence.of(34, "Returns slips that wait then;");
        SlipArchive first = Made.fullSlips();
        for (int left = 15; left >= 0; left--) {
            Due.same("the first one of " + (left + 1), left, first.dropSlip(0));
            Due.same("the next one is the first", left == 0 ? -1 : (16 - left) / 2, first.waiting(0, 0));
        }
        SlipArchive last = Made.fullSlips();
        for (int left = 15; left >= 0; left--) {
            Due.same("the last one of " + (left + 1), left, last.dropSlip(left));
            Due.same("the one ahead is the last", left == 0 ? -1 : (left - 1) / 2, last.waiting(left - 1, 0));
        }
        // all that a slip has goes with it
        SlipArchive middle = Due.made("archive 9 1 2 2;folder 2;folder 1;");
        middle.slip(0, 1);
        middle.days(2);
        Due.same("TRIES of the first one", 2, middle.waiting(0, 3));
        middle.slip(1, 1);
        Due.same("the first one", 1, middle.dropSlip(0));
        Due.same("its reader", 1, middle.waiting(0, 0));
        Due.same("its folder", 1, middle.waiting(0, 1));
        Due.same("its DAY", 2, middle.waiting(0, 2));
        Due.same("its TRIES", 0, middle.waiting(0, 3));
        Sentence.of(34, "-2 if there is no such place.");
        for (int place : new int[] {-1, 3, 16, FAR[0], FAR[1]}) {
            Refused.code("dropSlip(" + place + ") of 3", -2, Made::busy, x -> x.dropSlip(place));
        }
        Refused.code("dropSlip(0) of none", -2, Made::one, x -> x.dropSlip(0));
        Refused.code("dropSlip(16) of 16", -2, Made::fullSlips, x -> x.dropSlip(16));
    }

    private static void giveBack() {
        Sentence.of(35, "Returns its reader;");
        SlipArchive x = Made.allOut();
        for (int folder = 0; folder < 24; folder++) {
            Due.same("giveBack(" + folder + ")", folder / 3, x.giveBack(folder));
            Due.same("its STATE", 2, x.folder(folder, 2));
            Due.same("its place on the trolley", folder, x.folder(folder, 3));
            Due.same("folders of its reader", 2 - folder % 3, x.reader(folder / 3, 0));
        }
        Due.same("a full trolley", 24, x.size(8));
        Sentence.of(35, "-2 if it is with none.");
        Refused.code("giveBack(1) on the trolley", -2, Made::busy, y -> y.giveBack(1));
        Refused.code("giveBack(2) in the row", -2, Made::busy, y -> y.giveBack(2));
        Refused.code("giveBack(4) in the row", -2, Made::busy, y -> y.giveBack(4));
        Refused.code("giveBack(0) of one in the row", -2, Made::one, y -> y.giveBack(0));
        Refused.code("giveBack(23) of a full trolley", -2, Made::fullTrolley, y -> y.giveBack(23));
        Sentence.of(35, "Throws NoSuchElementException if there is no such folder");
        for (int folder : new int[] {-1, 5, 24, FAR[0], FAR[1]}) {
            Refused.noSuch("giveBack(" + folder + ")", Made::busy, y -> y.giveBack(folder));
        }
        Refused.noSuch("giveBack(24) of 24", Made::full, y -> y.giveBack(24));
        Refused.noSuch("giveBack(1) of one", Made::one, y -> y.giveBack(1));
    }

    private static void days() {
        Sentence.of(36, "Returns folders that go to readers in them;");
        SlipArchive x = Made.full();
        for (int i = 0; i < 16; i++) {
            x.slip(i / 2, i);
        }
        Due.same("one day with 6 hands", 6, x.days(1));
        Due.same("60 days", 10, x.days(60));
        Due.same("none waits", 0, x.days(1));
        Due.same("DAY", 62, x.size(0));
        Sentence.of(36, "many: 1 to 60");
        Due.same("days(1)", 0, Made.one().days(1));
        Due.same("days(60)", 0, Made.one().days(60));
        Sentence.of(36, "Throws IllegalArgumentException if many is out of range");
        for (int many : new int[] {0, 61, -1, FAR[0], FAR[1]}) {
            Refused.illegal("days(" + many + ")", Made::busy, y -> y.days(many));
            Refused.illegal("days(" + many + ") on DAY 999", () -> Made.onDay(999), y -> y.days(many));
        }
    }

    private static void daysCode() {
        Sentence.of(36, "-2 if DAY would be above 999.");
        Due.same("939 and 60", 0, Made.onDay(939).days(60));
        Refused.code("940 and 60", -2, () -> Made.onDay(940), x -> x.days(60));
        Due.same("940 and 59", 0, Made.onDay(940).days(59));
        Due.same("998 and 1", 0, Made.onDay(998).days(1));
        Refused.code("998 and 2", -2, () -> Made.onDay(998), x -> x.days(2));
        Refused.code("999 and 1", -2, () -> Made.onDay(999), x -> x.days(1));
        Refused.code("999 and 60", -2, () -> Made.onDay(999), x -> x.days(60));
        SlipArchive x = Made.onDay(939);
        x.days(60);
        Due.same("the last DAY", 999, x.size(0));
        // refused as a whole: not one of the days passes
        SlipArchive whole = Made.onDay(998);
        whole.slip(0, 1);
        Due.same("2 days", -2, whole.days(2));
        Due.same("DAY", 998, whole.size(0));
        Due.same("the slip waits", 1, whole.size(9));
    }

    private static void misfile() {
        Sentence.of(37, "Operation: a folder is taken out of the row and put back at a place (of the row without it).");
        SlipArchive x = Made.one();
        Due.same("the only place", 0, x.misfile(0, 0));
        Due.same("one", "7|", Due.formatted(x));
        SlipArchive five = Due.made("archive 1 1 1 1;folder 1;folder 2;folder 3;folder 4;folder 5;");
        String[] due = {"3 1 2 4 5|", "1 3!2 4 5|", "1 2 3 4 5|", "1 2 4!3 5|", "1 2 4 5!3|"};
        for (int place = 0; place < 5; place++) {
            Due.same("misfile(2, " + place + ")", 2, five.misfile(2, place));
            Due.same("the row", due[place].replace("3 1", "3!1"), Due.formatted(five));
            Due.same("back", place, five.misfile(2, 2));
        }
        Sentence.of(37, "Returns its place before;");
        SlipArchive full = Made.full();
        Due.same("the first to the last", 0, full.misfile(0, 23));
        Due.same("the last to the first", 23, full.misfile(0, 0));
        Due.same("to its own place", 11, full.misfile(11, 11));
        Due.same("nothing moved", 0, full.size(10));
        Due.same("it is recorded", 3, full.undoCount());
    }

    private static void misfileCodes() {
        Sentence.of(37, "-2 if it is not in the row, -3 if there is no such place (0 to the number of the others).");
        Refused.code("misfile(0, 0) of one with a reader", -2, Made::busy, x -> x.misfile(0, 0));
        Refused.code("misfile(1, 2) of one on the trolley", -2, Made::busy, x -> x.misfile(1, 2));
        Refused.code("misfile(0, 3): -2 ahead of -3", -2, Made::busy, x -> x.misfile(0, 3));
        Refused.code("misfile(1, -1): -2 ahead of -3", -2, Made::busy, x -> x.misfile(1, -1));
        for (int place : new int[] {-1, 3, 4, 24, FAR[0], FAR[1]}) {
            Refused.code("misfile(2, " + place + ") of 3 in the row", -3, Made::busy, x -> x.misfile(2, place));
        }
        SlipArchive busy = Made.busy();
        Due.same("misfile(2, 2) of 3 in the row", 1, busy.misfile(2, 2));
        Refused.code("misfile(0, 1) of one", -3, Made::one, x -> x.misfile(0, 1));
        Refused.code("misfile(23, 24) of 24", -3, Made::full, x -> x.misfile(23, 24));
        Refused.code("misfile(0, 0) of an empty row", -2, Made::oneOut, x -> x.misfile(0, 0));
        Sentence.of(37, "Throws NoSuchElementException if there is no such folder");
        for (int folder : new int[] {-1, 5, 24, FAR[0], FAR[1]}) {
            Refused.noSuch("misfile(" + folder + ", 0)", Made::busy, x -> x.misfile(folder, 0));
            Refused.noSuch("misfile(" + folder + ", 9)", Made::busy, x -> x.misfile(folder, 9));
        }
        Refused.noSuch("misfile(24, 0) of 24", Made::full, x -> x.misfile(24, 0));
        Refused.noSuch("misfile(1, 0) of one", Made::one, x -> x.misfile(1, 0));
    }

    private static void straighten() {
        Sentence.of(38, "Operation: a folder in the row is put to the place that it would have in the order of the MARKs of all in the row (the"
            + " others stay in their order).");
        SlipArchive x = Due.made("archive 9 1 1 1;folder 5;folder 3;folder 4;folder 1;folder 2;");
        Due.same("5 to the end", 4, x.straighten(0));
        Due.same("the others stay", "3 4!1 2 5|", Due.formatted(x));
        Due.same("1 to the beginning", 0, x.straighten(3));
        Due.same("the others stay", "1 3 4!2 5|", Due.formatted(x));
        Due.same("4, which is too far ahead", 3, x.straighten(2));
        Due.same("the others stay", "1 3!2 4 5|", Due.formatted(x));
        Due.same("2, which is too far behind", 1, x.straighten(4));
        Due.same("in order", "1 2 3 4 5|", Due.formatted(x));
        Sentence.of(38, "Returns its place then;");
        Due.same("one that stands right", 2, x.straighten(1));
        Due.same("it is recorded", 5, x.undoCount());
        Due.same("one alone", 0, Made.one().straighten(0));
        SlipArchive reversed = Made.reversed();
        Due.same("the greatest MARK of 24", 23, reversed.straighten(0));
        Due.same("the smallest MARK of 24", 0, reversed.straighten(23));
        Due.same("it is the first", 23, reversed.at(0));
        Due.same("it is the last", 0, reversed.at(23));
        // the order is that of those in the row: 20 is out
        SlipArchive busy = Made.busy();
        Due.same("50 behind 30 and 40", 2, busy.straighten(3));
        Due.same("30 ahead of all", 0, busy.straighten(2));
        Sentence.of(38, "-2 if it is not in the row.");
        Refused.code("straighten(0) of one with a reader", -2, Made::busy, y -> y.straighten(0));
        Refused.code("straighten(1) of one on the trolley", -2, Made::busy, y -> y.straighten(1));
        Refused.code("straighten(0) of an empty row", -2, Made::oneOut, y -> y.straighten(0));
        Sentence.of(38, "Throws NoSuchElementException if there is no such folder");
        for (int folder : new int[] {-1, 5, 24, FAR[0], FAR[1]}) {
            Refused.noSuch("straighten(" + folder + ")", Made::busy, y -> y.straighten(folder));
        }
        Refused.noSuch("straighten(24) of 24", Made::full, y -> y.straighten(24));
        Refused.noSuch("straighten(1) of one", Made::one, y -> y.straighten(1));
    }

    private static void check() {
        Sentence.of(39, "Operation: a check: the first wrong pair of neighbours is swapped, so many times at most, until there is none.");
        SlipArchive x = Due.made("archive 9 1 1 1;folder 3;folder 4;folder 2;folder 1;");
        String[] due = {"3 4!2!1|", "3!2 4!1|", "2 3 4!1|", "2 3!1 4|", "2!1 3 4|", "1 2 3 4|"};
        for (int swaps = 0; swaps < due.length; swaps++) {
            Due.same("behind " + swaps + " swaps", due[swaps], Due.formatted(x));
            Due.same("check(1)", swaps + 1 < due.length ? 1 : 0, x.check(1));
        }
        SlipArchive three = Due.made("archive 9 1 1 1;folder 3;folder 4;folder 2;folder 1;");
        Due.same("check(3)", 3, three.check(3));
        Due.same("behind it", due[3], Due.formatted(three));
        Sentence.of(39, "Returns how many were swapped.");
        Due.same("check(1) of one", 0, Made.one().check(1));
        Due.same("check(99) of an empty row", 0, Made.oneOut().check(99));
        Due.same("check(99) of a full row", 0, Made.full().check(99));
        Due.same("check(99) of a full row, reversed", 99, Made.reversed().check(99));
        Due.same("check(98) of a full row, reversed", 98, Made.reversed().check(98));
        Due.same("check(1) of a full row, reversed", 1, Made.reversed().check(1));
        Due.same("the rest", 2, three.check(99));
        Sentence.of(39, "Throws IllegalArgumentException if swaps is out of range");
        for (int swaps : new int[] {0, 100, -1, FAR[0], FAR[1]}) {
            Refused.illegal("check(" + swaps + ")", Made::busy, y -> y.check(swaps));
        }
    }

    private static void setEmbargo() {
        Sentence.of(40, "Returns EMBARGO before.");
        SlipArchive x = Made.busy();
        int[] before = {0, 0, 4, 5, 0};
        for (int folder = 0; folder < 5; folder++) {
            Due.same("setEmbargo(" + folder + ", 999)", before[folder], x.setEmbargo(folder, 999));
            Due.same("setEmbargo(" + folder + ", 0)", 999, x.setEmbargo(folder, 0));
            Due.same("EMBARGO", 0, x.folder(folder, 1));
            Due.same("the same again", 0, x.setEmbargo(folder, 0));
        }
        SlipArchive full = Made.full();
        Due.same("the last of 24", 0, full.setEmbargo(23, 1));
        Due.same("its EMBARGO", 1, full.folder(23, 1));
        Due.same("the one ahead", 0, full.folder(22, 1));
        Sentence.of(40, "Throws NoSuchElementException if there is no such folder (checked first)");
        for (int folder : new int[] {-1, 5, 24, FAR[0], FAR[1]}) {
            for (int day : new int[] {0, 999, -1, 1000}) {
                Refused.noSuch("setEmbargo(" + folder + ", " + day + ")", Made::busy, y -> y.setEmbargo(folder, day));
            }
        }
        Refused.noSuch("setEmbargo(24, 0) of 24", Made::full, y -> y.setEmbargo(24, 0));
        Refused.noSuch("setEmbargo(1, 1000) of one", Made::one, y -> y.setEmbargo(1, 1000));
        Sentence.of(40, "Throws IllegalArgumentException if day is out of range");
        for (int day : new int[] {-1, 1000, FAR[0], FAR[1]}) {
            Refused.illegal("setEmbargo(0, " + day + ")", Made::busy, y -> y.setEmbargo(0, day));
            Refused.illegal("setEmbargo(4, " + day + ")", Made::busy, y -> y.setEmbargo(4, day));
        }
    }

    private static SlipArchive emptyBuffer() {
        SlipArchive x = Made.busy();
        x.load(0);
        return x;
    }

    private static void play() {
        Sentence.of(41, "Operation: reads the first bytes of the buffer as a script and does its orders, one after the other.");
        SlipArchive x = new SlipArchive();
        Due.feed(x, "day 1;day 2;day 99;");
        Due.same("play(12)", 2, x.play(12));
        Due.same("DAY", 3, x.size(0));
        SlipArchive order = new SlipArchive();
        Due.same("one behind the other", 3, Due.play(order, "misfile 10 4;misfile 20 4;misfile 10 0;"));
        Due.same("the row", "10 30 50!40!20|", Due.formatted(order));
        Sentence.of(41, "The buffer is empty afterwards, also after an error.");
        Due.illegal("play(1) behind a script", () -> x.play(1));
        Due.same("feed behind a script", 20, x.feed(0, 0, 0, 0, 0));
        Due.same("play(1) of an error", -11, x.play(1));
        Due.illegal("play(1) behind an error", () -> x.play(1));
        Due.same("feed behind an error", 20, x.feed(0, 0, 0, 0, 0));
        Due.same("play(0)", 0, x.play(0));
        Due.illegal("play(1) behind no bytes", () -> x.play(1));
        Due.same("drop 0;", 0, Due.play(x, "drop 0;"));
        Due.illegal("play(1) behind an order that was refused", () -> x.play(1));
        Sentence.of(41, "Returns the number of orders that were done;");
        Due.same("no orders", 0, x.play(0));
        Due.same("blanks alone", 0, Due.play(x, " \n "));
        Due.same("one order", 1, Due.play(x, "day 1;"));
        Due.same("20 orders", 20, Due.play(x, "check 1;".repeat(20)));
        Due.same("the first is refused", 0, Due.play(x, "drop 0;day 1;"));
        Due.same("the second is refused", 1, Due.play(x, "day 1;drop 0;day 1;"));
        Due.feed(x, " ".repeat(694) + "day 1;");
        Due.same("at the end of a full buffer", 1, x.play(700));
    }

    private static void playOrders() {
        Sentence.of(Sentence.TERMS, "The orders are the operations with these names, told by MARKs in place of the numbers of folders (return is"
            + " giveBack, day is days, until is setEmbargo, drop is dropSlip).");
        SlipArchive x = Made.busy();
        SlipArchive y = Made.busy();
        x.load(0);
        y.load(0);
        String[] orders = {"slip 0 50;", "drop 1;", "return 10;", "day 2;", "misfile 30 0;", "check 2;", "until 30 999;"};
        for (String order : orders) {
            Due.same(order, 1, Due.play(x, order));
        }
        Due.same("slip(0, 3)", 3, y.slip(0, 3));
        Due.same("dropSlip(1)", 3, y.dropSlip(1));
        Due.same("giveBack(0)", 0, y.giveBack(0));
        Due.same("days(2)", 1, y.days(2));
        Due.same("misfile(2, 0)", 3, y.misfile(2, 0));
        Due.same("check(2)", 2, y.check(2));
        Due.same("setEmbargo(2, 999)", 4, y.setEmbargo(2, 999));
        Due.same("the state", Due.state(y), Due.state(x));
        Due.same("the row", Due.formatted(y), Due.formatted(x));
        Due.same("the accounts", Due.lasting(y), Due.lasting(x));
    }

    private static void playErrors() {
        Sentence.of(41, "-10 minus the error code if the text has an error (then only the buffer and the error position change).");
        Refused.text("play of error 1", -11, 18, OperationSentences::emptyBuffer, x -> Due.play(x, "day 1;drop 0;day 1"));
        Refused.text("play of error 2", -12, 17, OperationSentences::emptyBuffer, x -> Due.play(x, "day 1;drop 0;day 61;"));
        Refused.text("play of error 4", -14, 160, OperationSentences::emptyBuffer, x -> Due.play(x, "check 1;".repeat(21)));
        Due.same("there is no error 3", 2, Due.play(new SlipArchive(), "until 10 1;until 10 1;"));
        Sentence.of(41, "Throws IllegalArgumentException if length is negative or greater than the number of bytes in the buffer (nothing"
            + " changes)");
        for (int length : new int[] {-1, 21, FAR[0], FAR[1]}) {
            Refused.illegal("play(" + length + ") of 20 bytes", Made::busy, x -> x.play(length));
        }
        Refused.illegal("play(1) of none", SlipArchive::new, x -> x.play(1));
        SlipArchive all = Made.busy();
        Due.same("play(20) of 20 bytes", -11, all.play(20));
    }

    private static void playCodes() {
        Sentence.of(Sentence.TERMS, "A call that returns a negative error code or throws an exception changes nothing but account 1 (play and load empty"
            + " the buffer, too);");
        // an order that is refused leaves what the orders ahead of it did, and nothing else
        String[] refused = {"slip 0 10;", "slip 0 40;", "slip 2 40;", "slip 0 77;", "drop 3;", "return 50;", "return 77;",
            "misfile 20 0;", "misfile 30 2;", "misfile 77 0;", "until 77 0;"};
        for (String order : refused) {
            SlipArchive x = emptyBuffer();
            SlipArchive y = emptyBuffer();
            Due.same("day 1;" + order, 1, Due.play(x, "day 1;" + order + "day 1;"));
            y.days(1);
            Due.same("the state behind " + order, Due.state(y), Due.state(x));
            Due.same("account(0) behind " + order, y.account(0), x.account(0));
            Due.same("account(1) behind " + order, y.account(1) + 1, x.account(1));
            Due.same("undoCount() behind " + order, 8, x.undoCount());
        }
        SlipArchive full = Made.fullSlips();
        Due.same("a 17th slip", 0, Due.play(full, "slip 0 3;day 1;"));
        Due.same("DAY", 0, full.size(0));
        SlipArchive last = Made.onDay(998);
        Due.same("days beyond DAY 999", 1, Due.play(last, "day 1;day 1;check 1;"));
        Due.same("DAY", 999, last.size(0));
        Due.same("the row", "2!1 3|", Due.formatted(last));
    }
}
