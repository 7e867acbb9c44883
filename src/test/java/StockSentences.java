/** Promises 5 to 12, what there is: a sentence of the document with each test. */
final class StockSentences {
    private static final int[] FAR = {Integer.MIN_VALUE, Integer.MAX_VALUE};

    private StockSentences() {
    }

    static void ask() {
        size();
        sizeOfDays();
        account();
        folder();
        folderWhere();
        folderClosed();
        marked();
        at();
        reader();
        waiting();
        waitingWhy();
        gap();
    }

    private static void sizes(String when, SlipArchive x, int... want) {
        for (int what = 0; what < want.length; what++) {
            Due.same("size(" + what + ") of " + when, want[what], x.size(what));
        }
    }

    private static void size() {
        Sentence.of(5, "Returns a number: what 0 DAY, 1 PERIOD, 2 HANDS, 3 readers, 4 LIMIT, 5 folders, 6 folders in the row,"
            + " 7 folders with readers, 8 folders on the trolley, 9 slips that wait, 10 wrong pairs of neighbours,");
        sizes("the smallest archive", Made.one(), 0, 1, 1, 1, 1, 1, 1, 0, 0, 0, 0, 1);
        sizes("an empty row", Made.oneOut(), 1, 14, 1, 1, 1, 1, 0, 1, 0, 0, 0, 13);
        sizes("a full row", Made.full(), 0, 14, 6, 8, 5, 24, 24, 0, 0, 0, 0, 14);
        sizes("a full row, reversed", Made.reversed(), 0, 14, 6, 8, 5, 24, 24, 0, 0, 0, 23, 14);
        sizes("all with readers", Made.allOut(), 5, 14, 6, 8, 5, 24, 0, 24, 0, 0, 0, 9);
        sizes("a full trolley", Made.fullTrolley(), 5, 14, 6, 8, 5, 24, 0, 0, 24, 0, 0, 9);
        sizes("all slips", Made.fullSlips(), 0, 14, 6, 8, 5, 3, 3, 0, 0, 16, 0, 14);
        sizes("the last day", Made.onDay(999), 999, 14, 6, 8, 5, 3, 3, 0, 0, 0, 1, 9);
        sizes("the midst of work", Made.busy(), 1, 3, 2, 2, 2, 5, 3, 1, 1, 3, 1, 2);
        Sentence.of(Sentence.TERMS, "A pair of neighbours in the row is wrong if the one behind has the smaller MARK.");
        Due.same("1 0", 1, Due.made("archive 1 1 1 1;folder 1;folder 0;").size(10));
        Due.same("0 1", 0, Due.made("archive 1 1 1 1;folder 0;folder 1;").size(10));
        Due.same("2 0 1: not neighbours, so not a pair", 1, Due.made("archive 1 1 1 1;folder 2;folder 0;folder 1;").size(10));
        Sentence.of(5, "Throws IllegalArgumentException if what is out of range");
        for (int what : new int[] {-1, 12, FAR[0], FAR[1]}) {
            Refused.illegal("size(" + what + ")", Made::busy, x -> x.size(what));
        }
    }

    private static void sizeOfDays() {
        Sentence.of(5, "11 days until the next refiling day (1 at least).");
        for (int period = 1; period <= 14; period++) {
            SlipArchive x = Due.made("archive " + period + " 1 1 1;folder 7;");
            for (int day = 0; day <= 29; day++) {
                int until = 1;
                while ((day + until) % period != 0) {
                    until++;
                }
                Due.same("PERIOD " + period + ", DAY " + day, until, x.size(11));
                x.days(1);
            }
        }
    }

    private static void account() {
        Sentence.of(6, "what: 0 to 10");
        int[] want = {9, 0, 0, 5, 2, 0, 0, 4, 0, 0, 2};
        SlipArchive x = Made.busy();
        for (int what = 0; what <= 10; what++) {
            Due.same("account(" + what + ")", want[what], x.account(what));
        }
        Sentence.of(6, "Throws IllegalArgumentException if what is out of range");
        for (int what : new int[] {-1, 11, FAR[0], FAR[1]}) {
            Refused.illegal("account(" + what + ")", Made::busy, y -> y.account(what));
        }
    }

    private static void folders(String when, SlipArchive x, int folder, int... want) {
        for (int what = 0; what < want.length; what++) {
            Due.same("folder(" + folder + ", " + what + ") " + when, want[what], x.folder(folder, what));
        }
    }

    private static void folder() {
        Sentence.of(7, "Returns a number of a folder: what 0 MARK, 1 EMBARGO, 2 STATE,");
        folders("in a full row", Made.full(), 0, 9000, 0, 0, 0, 0, 0, 0);
        folders("in a full row", Made.full(), 23, 9023, 0, 0, 23, 0, 0, 0);
        folders("alone", Made.one(), 0, 7, 0, 0, 0, 0, 0, 0);
        folders("with a reader", Made.allOut(), 23, 9023, 0, 1, 7, 0, 1, 0);
        folders("on the trolley", Made.fullTrolley(), 23, 9023, 0, 2, 0, 0, 1, 0);
        Sentence.of(7, "4 slips that wait for it,");
        SlipArchive slips = Made.fullSlips();
        Due.same("of 8 readers", 8, slips.folder(0, 4));
        Due.same("of 8 readers", 8, slips.folder(1, 4));
        Due.same("of none", 0, slips.folder(2, 4));
        slips.dropSlip(0);
        Due.same("of 7 readers", 7, slips.folder(0, 4));
        Sentence.of(7, "5 how often it went to a reader since the text was read,");
        SlipArchive x = Made.one();
        for (int times = 0; times < 5; times++) {
            Due.same("it went " + times + " times", times, x.folder(0, 5));
            x.slip(0, 0);
            Due.same("a slip", times, x.folder(0, 5));
            x.days(1);
            Due.same("a day", times + 1, x.folder(0, 5));
            x.giveBack(0);
            Due.same("it is back", times + 1, x.folder(0, 5));
        }
        x.undo();
        x.undo();
        Due.same("undo", 4, x.folder(0, 5));
        Due.load(x, "archive 1 1 1 1;folder 7;");
        Due.same("a new text", 0, x.folder(0, 5));
        Sentence.of(7, "Throws NoSuchElementException if there is no such folder (checked first)");
        for (int folder : new int[] {-1, 5, 24, FAR[0], FAR[1]}) {
            for (int what : new int[] {0, 6, -1, 7}) {
                Refused.noSuch("folder(" + folder + ", " + what + ")", Made::busy, y -> y.folder(folder, what));
            }
        }
        Refused.noSuch("folder(24, 0) of 24", Made::full, y -> y.folder(24, 0));
        Refused.noSuch("folder(1, 7) of one", Made::one, y -> y.folder(1, 7));
        Sentence.of(7, "Throws IllegalArgumentException if what is out of range");
        for (int what : new int[] {-1, 7, FAR[0], FAR[1]}) {
            Refused.illegal("folder(0, " + what + ")", Made::busy, y -> y.folder(0, what));
            Refused.illegal("folder(4, " + what + ")", Made::busy, y -> y.folder(4, what));
        }
    }

    private static void folderWhere() {
        Sentence.of(7, "3 its place in the row, or on the trolley (from 0, that which came first), or its reader,");
        SlipArchive row = Made.reversed();
        SlipArchive out = Made.allOut();
        SlipArchive trolley = Made.fullTrolley();
        for (int folder = 0; folder < 24; folder++) {
            Due.same("the place of " + folder, folder, row.folder(folder, 3));
            Due.same("the reader of " + folder, folder / 3, out.folder(folder, 3));
            Due.same("the place on the trolley of " + folder, 23 - folder, trolley.folder(folder, 3));
        }
        row.misfile(0, 23);
        Due.same("at the last place", 23, row.folder(0, 3));
        Due.same("the one behind moves up", 0, row.folder(1, 3));
    }

    private static void folderClosed() {
        Sentence.of(7, "6 1 if it is closed, otherwise 0.");
        Due.same("a new one", 0, Made.one().folder(0, 6));
        Due.same("one until 4", 1, new SlipArchive().folder(2, 6));
        Sentence.of(Sentence.TERMS, "it is closed as long as DAY is less than that");
        SlipArchive x = Due.made("archive 1 1 1 1;folder 1;folder 2 until 1;folder 3 until 3;folder 4 until 999;");
        int[] until = {0, 1, 3, 999};
        for (int day = 0; day <= 4; day++) {
            for (int folder = 0; folder < until.length; folder++) {
                Due.same("DAY " + day + ", EMBARGO " + until[folder], day < until[folder] ? 1 : 0, x.folder(folder, 6));
            }
            x.days(1);
        }
        SlipArchive last = Made.onDay(998);
        last.setEmbargo(0, 999);
        last.setEmbargo(1, 998);
        Due.same("DAY 998, EMBARGO 999", 1, last.folder(0, 6));
        Due.same("DAY 998, EMBARGO 998", 0, last.folder(1, 6));
        last.days(1);
        Due.same("DAY 999, EMBARGO 999", 0, last.folder(0, 6));
        SlipArchive out = Made.oneOut();
        out.setEmbargo(0, 2);
        Due.same("one with a reader may be closed", 1, out.folder(0, 6));
        out.giveBack(0);
        Due.same("one on the trolley, too", 1, out.folder(0, 6));
    }

    private static void marked() {
        Sentence.of(8, "Returns the folder with a MARK; NONE if none has it.");
        SlipArchive ends = Due.made("archive 1 1 1 1;folder 9999;folder 0;");
        Due.same("marked(9999)", 0, ends.marked(9999));
        Due.same("marked(0)", 1, ends.marked(0));
        for (int mark : new int[] {-1, 1, 9998, 10000, FAR[0], FAR[1]}) {
            Due.same("marked(" + mark + ")", -1, ends.marked(mark));
        }
        SlipArchive full = Made.full();
        SlipArchive out = Made.allOut();
        SlipArchive trolley = Made.fullTrolley();
        for (int folder = 0; folder < 24; folder++) {
            Due.same("in the row", folder, full.marked(9000 + folder));
            Due.same("with a reader", folder, out.marked(9000 + folder));
            Due.same("on the trolley", folder, trolley.marked(9000 + folder));
        }
        SlipArchive fresh = new SlipArchive();
        Due.same("of a new object", 2, fresh.marked(30));
        Due.load(fresh, "archive 1 1 1 1;folder 31;folder 30;folder");
        Due.same("behind a text with an error", 2, fresh.marked(30));
        Due.same("a MARK of that text", -1, fresh.marked(31));
        Due.same("ahead of all", -1, full.marked(8999));
        Due.same("behind all", -1, full.marked(9024));
    }

    private static void at() {
        Sentence.of(9, "Returns the folder at a place of the row; NONE if there is none.");
        SlipArchive full = Made.full();
        full.misfile(5, 23);
        Due.same("at(0)", 0, full.at(0));
        Due.same("at(5)", 6, full.at(5));
        Due.same("at(22)", 23, full.at(22));
        Due.same("at(23)", 5, full.at(23));
        SlipArchive empty = Made.oneOut();
        SlipArchive one = Made.one();
        for (int place : new int[] {-1, 24, FAR[0], FAR[1]}) {
            Due.same("at(" + place + ") of a full row", -1, full.at(place));
            Due.same("at(" + place + ") of one", -1, one.at(place));
            Due.same("at(" + place + ") of an empty row", -1, empty.at(place));
        }
        Due.same("at(0) of one", 0, one.at(0));
        Due.same("at(1) of one", -1, one.at(1));
        Due.same("at(0) of an empty row", -1, empty.at(0));
        Due.same("at(0), all on the trolley", -1, Made.fullTrolley().at(0));
        Due.same("at(23), all on the trolley", -1, Made.fullTrolley().at(23));
    }

    private static void reader() {
        Sentence.of(10, "Returns a number of a reader: what 0 folders that they have, 1 slips of theirs that wait, 2 folders that went"
            + " to them since the text was read.");
        SlipArchive out = Made.allOut();
        SlipArchive trolley = Made.fullTrolley();
        SlipArchive slips = Made.fullSlips();
        for (int reader = 0; reader < 8; reader++) {
            Due.same("folders of " + reader, 3, out.reader(reader, 0));
            Due.same("folders of " + reader + ", none waits", 0, out.reader(reader, 1));
            Due.same("folders that went to " + reader, 3, out.reader(reader, 2));
            Due.same("all back from " + reader, 0, trolley.reader(reader, 0));
            Due.same("folders that went to " + reader + " and came back", 3, trolley.reader(reader, 2));
            Due.same("no folders of " + reader, 0, slips.reader(reader, 0));
            Due.same("slips of " + reader, 2, slips.reader(reader, 1));
            Due.same("none went to " + reader, 0, slips.reader(reader, 2));
        }
        SlipArchive one = Due.made("archive 14 6 1 5;" + Made.folders(24));
        for (int folder = 0; folder < 16; folder++) {
            one.slip(0, folder);
        }
        Due.same("16 slips of one", 16, one.reader(0, 1));
        one.days(60);
        Due.same("LIMIT 5", 5, one.reader(0, 0));
        Due.same("11 are left", 11, one.reader(0, 1));
        one.giveBack(2);
        one.days(1);
        Due.same("5 again", 5, one.reader(0, 0));
        Due.same("6 went", 6, one.reader(0, 2));
        Sentence.of(10, "Throws NoSuchElementException if there is no such reader (checked first)");
        for (int reader : new int[] {-1, 2, 8, FAR[0], FAR[1]}) {
            for (int what : new int[] {0, 2, -1, 3}) {
                Refused.noSuch("reader(" + reader + ", " + what + ")", Made::busy, x -> x.reader(reader, what));
            }
        }
        Refused.noSuch("reader(8, 0) of 8", Made::full, x -> x.reader(8, 0));
        Refused.noSuch("reader(1, 3) of one", Made::one, x -> x.reader(1, 3));
        Sentence.of(10, "Throws IllegalArgumentException if what is out of range");
        for (int what : new int[] {-1, 3, FAR[0], FAR[1]}) {
            Refused.illegal("reader(0, " + what + ")", Made::busy, x -> x.reader(0, what));
            Refused.illegal("reader(1, " + what + ")", Made::busy, x -> x.reader(1, what));
        }
    }

    private static void slips(SlipArchive x, int place, int... want) {
        for (int what = 0; what < want.length; what++) {
            Due.same("waiting(" + place + ", " + what + ")", want[what], x.waiting(place, what));
        }
    }

    private static void waiting() {
        Sentence.of(11, "Returns a number of a slip that waits, by its place (from 0, that which came first): what 0 reader, 1 folder, 2 the"
            + " DAY on which it was handed in, 3 TRIES, 4 why it is idle (1 to 4; 0 if it is not);");
        SlipArchive full = Made.fullSlips();
        for (int place = 0; place < 16; place++) {
            slips(full, place, place / 2, place % 2, 0, 0, 3);
        }
        SlipArchive last = Made.onDay(999);
        last.slip(7, 2);
        slips(last, 0, 7, 2, 999, 0, 0);
        SlipArchive tries = new SlipArchive();
        tries.slip(1, 4);
        slips(tries, 0, 1, 4, 0, 0, 0);
        tries.days(1);
        slips(tries, 0, 1, 4, 0, 1, 0);
        tries.days(1);
        slips(tries, 0, 1, 4, 0, 2, 0);
        tries.days(1);
        slips(tries, 0, -1, -1, -1, -1, -1);
        Sentence.of(11, "NONE if there is no such place.");
        for (int place : new int[] {-1, 16, FAR[0], FAR[1]}) {
            slips(full, place, -1, -1, -1, -1, -1);
        }
        slips(Made.one(), 0, -1, -1, -1, -1, -1);
        full.dropSlip(3);
        slips(full, 15, -1, -1, -1, -1, -1);
        slips(full, 14, 7, 1, 0, 0, 3);
        slips(full, 3, 2, 0, 0, 0, 3);
        Sentence.of(11, "Throws IllegalArgumentException if what is not 0 to 4 (checked first)");
        for (int what : new int[] {-1, 5, FAR[0], FAR[1]}) {
            for (int place : new int[] {0, 2, 3, -1, 16, FAR[1]}) {
                Refused.illegal("waiting(" + place + ", " + what + ")", Made::busy, x -> x.waiting(place, what));
            }
        }
    }

    private static void waitingWhy() {
        Sentence.of(Sentence.TERMS, "A slip is idle, the first of these: 1 its folder is with a reader; 2 on the trolley; 3 closed by its EMBARGO;"
            + " 4 its reader has LIMIT folders. Otherwise it can be served.");
        // reader 0 has LIMIT folders, folder 0 of them; reader 1 has none
        SlipArchive x = Due.made("archive 14 6 2 2;folder 1;folder 2;folder 3;");
        Due.play(x, "slip 0 1;slip 0 2;day 1;slip 1 1;slip 0 3;slip 1 3;until 1 9;until 3 9;");
        slips(x, 0, 1, 0, 1, 0, 1);
        slips(x, 1, 0, 2, 1, 0, 3);
        slips(x, 2, 1, 2, 1, 0, 3);
        x.setEmbargo(2, 1);
        slips(x, 1, 0, 2, 1, 0, 4);
        slips(x, 2, 1, 2, 1, 0, 0);
        x.giveBack(0);
        slips(x, 0, 1, 0, 1, 0, 2);
        slips(x, 1, 0, 2, 1, 0, 0);
        x.setEmbargo(0, 0);
        slips(x, 0, 1, 0, 1, 0, 2);
        // LIMIT is told in the text: one less than it is not enough
        for (int limit = 1; limit <= 5; limit++) {
            SlipArchive y = Due.made("archive 14 6 1 " + limit + ";" + Made.folders(6));
            for (int folder = 0; folder < limit; folder++) {
                Due.same("one of " + limit + " may be served", 0, y.why(0, folder));
                y.slip(0, folder);
                slips(y, 0, 0, folder, folder, 0, 0);
                y.days(1);
            }
            y.slip(0, 5);
            slips(y, 0, 0, 5, limit, 0, 4);
        }
    }

    private static void gap() {
        Sentence.of(12, "together (always 0).");
        Due.same("of the smallest archive", 0, Made.one().gap());
        Due.same("of an empty row", 0, Made.oneOut().gap());
        Due.same("of a full row", 0, Made.full().gap());
        Due.same("of all out", 0, Made.allOut().gap());
        Due.same("of a full trolley", 0, Made.fullTrolley().gap());
        Due.same("of all slips", 0, Made.fullSlips().gap());
        SlipArchive x = Made.busy();
        for (int i = 0; i < 100; i++) {
            x.slip(i % 2, i % 5);
            x.days(1 + i % 3);
            x.giveBack(i * 3 % 5);
            Due.same("of work", 0, x.gap());
        }
    }
}
