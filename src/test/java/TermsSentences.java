/** The section Terms as far as the folders, readers and slips go: a sentence of the document with each test. */
final class TermsSentences {
    private TermsSentences() {
    }

    static void ask() {
        folders();
        readers();
        slips();
        noSuch();
    }

    private static void folders() {
        Sentence.of(Sentence.TERMS, "There are 1 to 24 folders, numbered from 0, each with a MARK (0 to 9999; no two the same), an EMBARGO (0 to"
            + " 999:");
        for (int many = 1; many <= 24; many++) {
            SlipArchive x = new SlipArchive();
            Due.same("load of " + many, many, Due.load(x, Made.text(many)));
            Due.same("folders of " + many, many, x.size(5));
            Due.same("the first", 9000, x.folder(0, 0));
            Due.same("the last", 8999 + many, x.folder(many - 1, 0));
            Due.noSuch("the one behind it", () -> x.folder(x.size(5), 0));
        }
        Due.same("no folder", -11, Due.load(new SlipArchive(), "archive 14 6 8 5;"));
        Due.same("25 folders", -14, Due.load(new SlipArchive(), Made.text(25)));
        Due.same("two MARKs that are the same", -13, Due.load(new SlipArchive(), Made.text(23) + "folder 9022;"));
        Due.same("MARK 0 and 9999", 2, Due.load(new SlipArchive(), "archive 14 6 8 5;folder 0;folder 9999 until 999;"));
        Due.same("MARK 10000", -12, Due.load(new SlipArchive(), "archive 14 6 8 5;folder 10000;"));
        Due.same("EMBARGO 1000", -12, Due.load(new SlipArchive(), "archive 14 6 8 5;folder 9999 until 1000;"));
        Sentence.of(Sentence.TERMS, "and a STATE: 0 in the row, 1 with a reader, 2 on the trolley.");
        Due.same("in the row", 0, Made.one().folder(0, 2));
        SlipArchive out = Made.oneOut();
        Due.same("with a reader", 1, out.folder(0, 2));
        out.giveBack(0);
        Due.same("on the trolley", 2, out.folder(0, 2));
        out.days(13);
        Due.same("in the row again", 0, out.folder(0, 2));
        Sentence.of(Sentence.TERMS, "at first all folders do, in the order of the text.");
        SlipArchive full = Made.reversed();
        Due.same("all of 24", 24, full.size(6));
        for (int place = 0; place < 24; place++) {
            Due.same("at(" + place + ")", place, full.at(place));
            Due.same("its MARK", 9999 - place, full.folder(place, 0));
        }
    }

    private static void readers() {
        Sentence.of(Sentence.TERMS, "There are 1 to 8 readers, numbered from 0;");
        for (int readers = 1; readers <= 8; readers++) {
            SlipArchive x = Due.made("archive 14 6 " + readers + " 5;folder 7;");
            Due.same("READERS", readers, x.size(3));
            Due.same("the first", 0, x.reader(0, 0));
            Due.same("the last", 0, x.reader(readers - 1, 0));
            Due.same("a slip of the last", 0, x.slip(readers - 1, 0));
            Due.noSuch("the one behind it", () -> x.reader(x.size(3), 0));
            Due.noSuch("a slip of the one behind it", () -> x.slip(x.size(3), 0));
        }
        Due.same("no reader", -12, Due.load(new SlipArchive(), "archive 14 6 0 5;folder 7;"));
        Due.same("9 readers", -12, Due.load(new SlipArchive(), "archive 14 6 9 5;folder 7;"));
        Sentence.of(Sentence.TERMS, "each may have LIMIT (1 to 5, the same for all) folders at a time.");
        for (int limit = 1; limit <= 5; limit++) {
            SlipArchive x = Due.made("archive 14 6 2 " + limit + ";" + Made.folders(16));
            for (int folder = 0; folder < 16; folder++) {
                x.slip(folder % 2, folder);
            }
            Due.same("folders that go out with LIMIT " + limit, 2 * limit, x.days(9));
            Due.same("those of reader 0", limit, x.reader(0, 0));
            Due.same("those of reader 1", limit, x.reader(1, 0));
            Due.same("no more", 0, x.days(2));
            x.giveBack(0);
            Due.same("one more for one that came back", 1, x.days(1));
            Due.same("it is reader 0 who has it", limit, x.reader(0, 0));
        }
        Due.same("LIMIT 0", -12, Due.load(new SlipArchive(), "archive 14 6 8 0;folder 7;"));
        Due.same("LIMIT 6", -12, Due.load(new SlipArchive(), "archive 14 6 8 6;folder 7;"));
    }

    private static void slips() {
        Sentence.of(Sentence.TERMS, "A slip has a reader, a folder, the DAY on which it was handed in, and TRIES (0 at first).");
        SlipArchive x = Due.made("archive 14 1 8 5;folder 2;folder 1;");
        x.slip(7, 1);
        x.days(1);
        x.slip(3, 1);
        Due.same("the reader of the first", 7, x.waiting(0, 0));
        Due.same("its folder", 1, x.waiting(0, 1));
        Due.same("its DAY", 0, x.waiting(0, 2));
        Due.same("its TRIES", 1, x.waiting(0, 3));
        Due.same("the reader of the second", 3, x.waiting(1, 0));
        Due.same("its folder", 1, x.waiting(1, 1));
        Due.same("its DAY", 1, x.waiting(1, 2));
        Due.same("its TRIES", 0, x.waiting(1, 3));
    }

    private static void noSuch() {
        Sentence.of(Sentence.TERMS, "NoSuchElementException is thrown if there is no such folder or reader.");
        SlipArchive x = Made.one();
        Due.noSuch("folder(1, 0)", () -> x.folder(1, 0));
        Due.noSuch("reader(1, 0)", () -> x.reader(1, 0));
        Due.noSuch("why(0, 1)", () -> x.why(0, 1));
        Due.noSuch("why(1, 0)", () -> x.why(1, 0));
        Due.noSuch("cause(0, 1)", () -> x.cause(0, 1));
        Due.noSuch("cause(1, 0)", () -> x.cause(1, 0));
        Due.noSuch("slip(0, 1)", () -> x.slip(0, 1));
        Due.noSuch("slip(1, 0)", () -> x.slip(1, 0));
        Due.noSuch("giveBack(1)", () -> x.giveBack(1));
        Due.noSuch("misfile(1, 0)", () -> x.misfile(1, 0));
        Due.noSuch("straighten(1)", () -> x.straighten(1));
        Due.noSuch("setEmbargo(1, 0)", () -> x.setEmbargo(1, 0));
        Due.same("they are not counted", "0 0 0", Due.lasting(x));
        Due.same("they are not recorded", 0, x.undoCount());
    }
}
