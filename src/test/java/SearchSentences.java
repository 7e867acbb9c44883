/** Promises 13 to 24, searches and reasons: a sentence of the document with each test. */
final class SearchSentences {
    private static final int[] FAR = {Integer.MIN_VALUE, Integer.MAX_VALUE};
    /** How many folders halving looks at for each one of 24 that are in order. */
    private static final int[] LOOKS = {4, 5, 3, 4, 5, 2, 4, 5, 3, 4, 5, 1, 4, 5, 3, 4, 5, 2, 4, 5, 3, 5, 4, 5};

    private SearchSentences() {
    }

    static void ask() {
        halving();
        found();
        looks();
        missed();
        refilePlace();
        inversions();
        longestOrdered();
        lookedAt();
        mostMisplaced();
        mostAsked();
        why();
        whyInOrder();
        cause();
        waitsFor();
        waitsForLimits();
        nothingChanges();
    }

    private static void search(SlipArchive x, int mark, int found, int... looked) {
        Due.same("found(" + mark + ")", found, x.found(mark));
        Due.same("looks(" + mark + ")", looked.length, x.looks(mark));
        for (int look = 0; look < looked.length; look++) {
            Due.same("lookedAt(" + mark + ", " + look + ")", looked[look], x.lookedAt(mark, look));
        }
        Due.same("lookedAt(" + mark + ", " + looked.length + ")", -1, x.lookedAt(mark, looked.length));
    }

    private static void halving() {
        Sentence.of(Sentence.TERMS, "from all places of the row the middle one is looked at (the first and the last place together, divided by 2);"
            + " if the folder there has the MARK, it is found; if its MARK is greater, the places ahead of it are left, otherwise those"
            + " behind it; and so on, until there is none left: it is missed then.");
        search(Made.oneOut(), 7, -1);
        SlipArchive one = Made.one();
        search(one, 7, 0, 0);
        search(one, 6, -1, 0);
        search(one, 8, -1, 0);
        SlipArchive two = Due.made("archive 1 1 1 1;folder 10;folder 20;");
        search(two, 10, 0, 0);
        search(two, 20, 1, 0, 1);
        search(two, 5, -1, 0);
        search(two, 15, -1, 0, 1);
        search(two, 25, -1, 0, 1);
        SlipArchive wrong = Due.made("archive 1 1 1 1;folder 20;folder 10;");
        search(wrong, 20, 0, 0);
        search(wrong, 10, -1, 0);
        search(wrong, 15, -1, 0);
        SlipArchive three = Due.made("archive 1 1 1 1;folder 10;folder 20;folder 30;");
        search(three, 20, 1, 1);
        search(three, 10, 0, 1, 0);
        search(three, 30, 2, 1, 2);
        SlipArchive full = Made.full();
        search(full, 9011, 11, 11);
        search(full, 8999, -1, 11, 5, 2, 0);
        search(full, 9024, -1, 11, 17, 20, 22, 23);
        search(full, 9021, 21, 11, 17, 20, 22, 21);
        SlipArchive reversed = Made.reversed();
        search(reversed, 9988, 11, 11);
        search(reversed, 9999, -1, 11, 17, 20, 22, 23);
        search(reversed, 9976, -1, 11, 5, 2, 0);
    }

    private static void found() {
        Sentence.of(13, "Returns the place at which a MARK is found by halving now; NONE if it is missed.");
        SlipArchive full = Made.full();
        SlipArchive out = Made.allOut();
        SlipArchive trolley = Made.fullTrolley();
        for (int place = 0; place < 24; place++) {
            Due.same("found in a full row", place, full.found(9000 + place));
            Due.same("found, all with readers", -1, out.found(9000 + place));
            Due.same("found, all on the trolley", -1, trolley.found(9000 + place));
        }
        for (int mark : new int[] {-1, 0, 8999, 9024, 9999, 10000, FAR[0], FAR[1]}) {
            Due.same("found(" + mark + ")", -1, full.found(mark));
        }
        SlipArchive ends = Due.made("archive 1 1 1 1;folder 0;folder 9999;");
        Due.same("found(0)", 0, ends.found(0));
        Due.same("found(9999)", 1, ends.found(9999));
        full.misfile(5, 23);
        Due.same("one that stands wrong", -1, full.found(9005));
        full.straighten(5);
        Due.same("one that was put right", 5, full.found(9005));
    }

    private static void looks() {
        Sentence.of(14, "Returns how many folders are looked at if a MARK is looked for by halving now.");
        SlipArchive full = Made.full();
        SlipArchive reversed = Made.reversed();
        for (int place = 0; place < 24; place++) {
            Due.same("looks of a full row", LOOKS[place], full.looks(9000 + place));
            Due.same("looks of a reversed row", place < 11 ? 5 : place == 11 ? 1 : 4, reversed.looks(9999 - place));
        }
        Due.same("looks ahead of all", 4, full.looks(FAR[0]));
        Due.same("looks behind all", 5, full.looks(FAR[1]));
        Due.same("looks of an empty row", 0, Made.oneOut().looks(7));
        Due.same("looks, all on the trolley", 0, Made.fullTrolley().looks(9000));
        Due.same("looks of one, found", 1, Made.one().looks(7));
        Due.same("looks of one, missed", 1, Made.one().looks(0));
    }

    private static void missed() {
        Sentence.of(15, "Returns how many folders in the row are missed now, if they are looked for by halving.");
        Due.same("of an empty row", 0, Made.oneOut().missed());
        Due.same("of all on the trolley", 0, Made.fullTrolley().missed());
        Due.same("of one", 0, Made.one().missed());
        Due.same("of a full row", 0, Made.full().missed());
        Due.same("of a full row, reversed", 23, Made.reversed().missed());
        Due.same("of two, reversed", 1, Due.made("archive 1 1 1 1;folder 2;folder 1;").missed());
        Due.same("50!30 40: 30 is looked at first", 1, Made.busy().missed());
    }

    private static void refilePlace() {
        Sentence.of(16, "Returns the place at which a folder with a MARK would be refiled now (whether there is such a one or not; where it is"
            + " found, if it is found).");
        SlipArchive full = Made.full();
        for (int place = 0; place < 24; place++) {
            Due.same("where it is found", place, full.refilePlace(9000 + place));
        }
        Due.same("ahead of all", 0, full.refilePlace(8999));
        Due.same("behind all", 24, full.refilePlace(9024));
        Due.same("far ahead", 0, full.refilePlace(FAR[0]));
        Due.same("far behind", 24, full.refilePlace(FAR[1]));
        for (int mark : new int[] {-1, 0, 7, 9999, 10000, FAR[0], FAR[1]}) {
            Due.same("of an empty row", 0, Made.oneOut().refilePlace(mark));
        }
        Due.same("ahead of one", 0, Made.one().refilePlace(6));
        Due.same("at one", 0, Made.one().refilePlace(7));
        Due.same("behind one", 1, Made.one().refilePlace(8));
        SlipArchive reversed = Made.reversed();
        Due.same("of the greatest MARK in a reversed row", 24, reversed.refilePlace(9999));
        Due.same("of the smallest MARK in a reversed row", 0, reversed.refilePlace(9976));
        // it tells what a refiling day does
        for (int folder = 0; folder < 5; folder++) {
            SlipArchive x = Due.made("archive 3 2 2 2;folder 50;folder 10;folder 40;folder 20;folder 30;");
            int mark = x.folder(folder, 0);
            x.slip(0, folder);
            for (int search = 0; search < 3 && x.folder(folder, 2) != 1; search++) {
                x.days(1);
            }
            x.giveBack(folder);
            for (int day = 0; day < 2 && x.size(11) > 1; day++) {
                x.days(1);
            }
            int place = x.refilePlace(mark);
            x.days(1);
            Due.same("the place of " + mark + " behind a refiling day", place, x.folder(folder, 3));
        }
    }

    private static void inversions() {
        Sentence.of(17, "Returns pairs of folders in the row (neighbours or not), the one behind having the smaller MARK.");
        Due.same("of an empty row", 0, Made.oneOut().inversions());
        Due.same("of one", 0, Made.one().inversions());
        Due.same("of a full row", 0, Made.full().inversions());
        Due.same("of a full row, reversed", 276, Made.reversed().inversions());
        SlipArchive x = Made.full();
        x.misfile(0, 23);
        Due.same("the first one behind all", 23, x.inversions());
        x.misfile(23, 0);
        Due.same("and the last one ahead of all", 45, x.inversions());
    }

    private static void longestOrdered() {
        Sentence.of(18, "Returns the most folders of the row that stand in the right order among themselves, one behind the other (others between"
            + " them or not).");
        Due.same("of an empty row", 0, Made.oneOut().longestOrdered());
        Due.same("of one", 1, Made.one().longestOrdered());
        Due.same("of a full row", 24, Made.full().longestOrdered());
        Due.same("of a full row, reversed", 1, Made.reversed().longestOrdered());
        Due.same("with others between them", 3, Due.made("archive 1 1 1 1;folder 9;folder 1;folder 8;folder 2;folder 7;folder 3;")
            .longestOrdered());
        Due.same("of two that are as long", 2, Due.made("archive 1 1 1 1;folder 3;folder 4;folder 1;folder 2;").longestOrdered());
        SlipArchive turns = Made.full();
        turns.misfile(0, 23);
        Due.same("the first one behind all", 23, turns.longestOrdered());
        turns.misfile(1, 23);
        Due.same("the second one, too", 22, turns.longestOrdered());
        turns.check(99);
        Due.same("in order again", 24, turns.longestOrdered());
        // the one that begins with the smallest is not the longest
        Due.same("behind a greater one", 3, Due.made("archive 1 1 1 1;folder 5;folder 6;folder 1;folder 7;").longestOrdered());
    }

    private static void lookedAt() {
        Sentence.of(19, "Returns the folder that is looked at as the given one (from 0), if a MARK is looked for by halving now; NONE if fewer"
            + " are.");
        SlipArchive full = Made.full();
        int[] looked = {11, 17, 20, 22, 23};
        for (int look = 0; look < looked.length; look++) {
            Due.same("lookedAt(9023, " + look + ")", looked[look], full.lookedAt(9023, look));
        }
        for (int look : new int[] {5, 6, 23, 24, FAR[1], -1, FAR[0]}) {
            Due.same("lookedAt(9023, " + look + ")", -1, full.lookedAt(9023, look));
        }
        Due.same("the first one that is found", 11, full.lookedAt(9011, 0));
        Due.same("none behind it", -1, full.lookedAt(9011, 1));
        Due.same("of an empty row", -1, Made.oneOut().lookedAt(7, 0));
        Due.same("of one", 0, Made.one().lookedAt(FAR[1], 0));
        Due.same("of one, behind it", -1, Made.one().lookedAt(FAR[1], 1));
        // the folder is told, not its place
        SlipArchive busy = Made.busy();
        Due.same("50!30 40: 30 is looked at first", 2, busy.lookedAt(50, 0));
        Due.same("then 40", 4, busy.lookedAt(50, 1));
        Due.same("then none", -1, busy.lookedAt(50, 2));
    }

    private static void mostMisplaced() {
        Sentence.of(20, "Returns the folder in the row that is farthest from the place that it would have in order (all in the row in the order of"
            + " their MARKs), of several the smallest number; NONE if all stand there.");
        Due.same("of an empty row", -1, Made.oneOut().mostMisplaced());
        Due.same("of one", -1, Made.one().mostMisplaced());
        Due.same("of a full row", -1, Made.full().mostMisplaced());
        Due.same("of a full row, reversed", 0, Made.reversed().mostMisplaced());
        SlipArchive x = Made.full();
        x.misfile(23, 0);
        Due.same("the last one ahead of all", 23, x.mostMisplaced());
        x.misfile(0, 23);
        Due.same("and the first one behind all: the smallest number", 0, x.mostMisplaced());
        x.straighten(0);
        x.straighten(23);
        x.misfile(7, 8);
        Due.same("two that are swapped: the smallest number", 7, x.mostMisplaced());
        // 2 stands farther than 0 and 1, which have the smaller numbers
        Due.same("20 30 10", 2, Due.made("archive 1 1 1 1;folder 20;folder 30;folder 10;").mostMisplaced());
        // with 90 out all the others stand in order
        SlipArchive out = Due.made("archive 9 1 1 1;folder 90;folder 1;folder 2;");
        Due.same("90!1 2", 0, out.mostMisplaced());
        Due.play(out, "slip 0 90;day 3;");
        Due.same("1 2", -1, out.mostMisplaced());
    }

    private static void mostAsked() {
        Sentence.of(21, "Returns the folder for which the most slips wait (one at least), of several the smallest number; NONE if none waits.");
        Due.same("none waits", -1, Made.full().mostAsked());
        Due.same("none waits any more", -1, Made.oneOut().mostAsked());
        SlipArchive x = Made.full();
        x.slip(7, 23);
        Due.same("one slip for the last one", 23, x.mostAsked());
        x.slip(7, 22);
        Due.same("one more for another: the smallest number", 22, x.mostAsked());
        x.slip(6, 23);
        Due.same("two for the last one", 23, x.mostAsked());
        x.dropSlip(0);
        Due.same("one for each", 22, x.mostAsked());
        x.dropSlip(0);
        x.dropSlip(0);
        Due.same("all were dropped", -1, x.mostAsked());
        SlipArchive full = Made.fullSlips();
        Due.same("8 for both", 0, full.mostAsked());
        full.dropSlip(0);
        Due.same("7 and 8", 1, full.mostAsked());
        Due.same("slips for one that is out", 4, Made.busy().mostAsked());
    }

    private static void why() {
        Sentence.of(22, "Returns the code with which it would be refused if a reader handed in a slip for a folder now; 0 if it would not be.");
        int[][] due = {{-2, 0, 0, 0, -3}, {0, 0, -3, 0, -3}};
        for (int reader = 0; reader < 2; reader++) {
            for (int folder = 0; folder < 5; folder++) {
                SlipArchive x = Made.busy();
                int why = x.why(reader, folder);
                Due.same("why(" + reader + ", " + folder + ")", due[reader][folder], why);
                int slip = x.slip(reader, folder);
                Due.same("slip(" + reader + ", " + folder + ")", why == 0 ? 3 : why, slip);
            }
        }
        SlipArchive ends = Made.full();
        Due.same("why(7, 23)", 0, ends.why(7, 23));
        Sentence.of(22, "Throws NoSuchElementException if there is no such reader or folder");
        for (int[] pair : none()) {
            Refused.noSuch("why(" + pair[0] + ", " + pair[1] + ")", Made::busy, x -> x.why(pair[0], pair[1]));
        }
        Refused.noSuch("why(8, 0) of 8", Made::fullSlips, x -> x.why(8, 0));
        Refused.noSuch("why(0, 24) of 24", Made::full, x -> x.why(0, 24));
        Refused.noSuch("why(1, 0) of one", Made::one, x -> x.why(1, 0));
        Refused.noSuch("why(0, 1) of one", Made::one, x -> x.why(0, 1));
    }

    /** Readers and folders, at least one of which there is not in an archive with 2 and 5. */
    private static int[][] none() {
        return new int[][] {{-1, 0}, {2, 0}, {8, 4}, {FAR[0], 0}, {FAR[1], 0}, {0, -1}, {0, 5}, {1, 24}, {0, FAR[0]}, {0, FAR[1]},
            {-1, -1}, {2, 5}};
    }

    private static void whyInOrder() {
        Sentence.of(Sentence.TERMS, "error codes are checked after the exceptions, in the order in which they are listed.");
        SlipArchive x = Due.made("archive 14 6 8 5;folder 1;folder 2 until 999;folder 3 until 999;folder 4 until 999;");
        Due.play(x, "slip 0 1;day 1;");
        for (int i = 0; i < 15; i++) {
            x.slip(i / 2, i % 2 + 1);
        }
        Due.same("15 slips wait: there is room", 0, x.why(7, 2));
        x.slip(7, 3);
        Due.same("16 slips wait", 16, x.size(9));
        Due.same("-4", -4, x.why(7, 2));
        Due.same("-3 ahead of -4", -3, x.why(0, 1));
        Due.same("-2 ahead of -4", -2, x.why(0, 0));
        Due.noSuch("an exception ahead of -4", () -> x.why(8, 2));
        Due.noSuch("an exception ahead of -4", () -> x.why(7, 4));
    }

    private static void cause() {
        Sentence.of(23, "Returns what belongs to the answer of why: with -3 the place of the first slip of this reader for it; NONE otherwise.");
        int[][] due = {{-1, -1, -1, -1, 0}, {-1, -1, 2, -1, 1}};
        SlipArchive busy = Made.busy();
        for (int reader = 0; reader < 2; reader++) {
            for (int folder = 0; folder < 5; folder++) {
                Due.same("cause(" + reader + ", " + folder + ")", due[reader][folder], busy.cause(reader, folder));
            }
        }
        SlipArchive full = Made.fullSlips();
        for (int place = 0; place < 16; place++) {
            Due.same("the slip at " + place, place, full.cause(place / 2, place % 2));
        }
        Due.same("-4 has no cause", -1, full.cause(0, 2));
        full.dropSlip(0);
        Due.same("the first one was dropped", -1, full.cause(0, 0));
        Due.same("the last one moved up", 14, full.cause(7, 1));
        Sentence.of(23, "Throws NoSuchElementException if there is no such reader or folder");
        for (int[] pair : none()) {
            Refused.noSuch("cause(" + pair[0] + ", " + pair[1] + ")", Made::busy, x -> x.cause(pair[0], pair[1]));
        }
        Refused.noSuch("cause(8, 0) of 8", Made::fullSlips, x -> x.cause(8, 0));
        Refused.noSuch("cause(0, 24) of 24", Made::full, x -> x.cause(0, 24));
    }

    private static void waitsFor() {
        Sentence.of(24, "Returns what a slip waits for, by its place: the reader who has the folder, if it is idle by 1;");
        SlipArchive out = Made.allOut();
        for (int reader = 0; reader < 8; reader++) {
            out.slip((reader + 1) % 8, reader * 3);
        }
        for (int place = 0; place < 8; place++) {
            Due.same("the reader of " + place * 3, place, out.waitsFor(place));
        }
        Sentence.of(24, "the days until the next refiling day by 2;");
        for (int period : new int[] {1, 2, 14}) {
            SlipArchive x = Due.made("archive " + period + " 1 2 1;folder 7;");
            Due.play(x, "slip 0 7;day 1;return 7;slip 1 7;");
            for (int left = period - (period > 1 ? 1 : 0); left >= 1; left--) {
                Due.same("PERIOD " + period, left, x.waitsFor(0));
                x.days(1);
            }
            Due.same("it was served on that day", 1, x.folder(0, 2));
        }
        Sentence.of(24, "the days until it is open by 3;");
        SlipArchive closed = Made.fullSlips();
        Due.same("until DAY 999", 999, closed.waitsFor(0));
        closed.setEmbargo(0, 2);
        Due.same("2 days", 2, closed.waitsFor(14));
        closed.days(1);
        Due.same("1 day", 1, closed.waitsFor(14));
        closed.setEmbargo(0, 1);
        Due.same("it is open", -1, closed.waitsFor(14));
        Due.same("DAY 1", 998, closed.waitsFor(15));
    }

    private static void waitsForLimits() {
        Sentence.of(24, "the folders that the reader has by 4;");
        for (int limit = 1; limit <= 5; limit++) {
            SlipArchive x = Due.made("archive 14 6 2 " + limit + ";" + Made.folders(7));
            for (int folder = 0; folder <= limit; folder++) {
                x.slip(1, folder);
            }
            x.days(1);
            Due.same("LIMIT " + limit, limit, x.waitsFor(0));
        }
        SlipArchive back = Due.made("archive 14 6 1 2;" + Made.folders(5));
        Due.play(back, "slip 0 9000;slip 0 9001;day 1;return 9000;slip 0 9002;day 1;slip 0 9003;");
        Due.same("three went to the reader", 3, back.reader(0, 2));
        Due.same("they have two", 2, back.waitsFor(0));
        Sentence.of(24, "NONE if it is not idle, or there is no such place.");
        SlipArchive x = Made.busy();
        Due.same("the first of 3 is not idle", -1, x.waitsFor(0));
        Due.same("the last of 3 is", 3, x.waitsFor(2));
        SlipArchive full = Made.fullSlips();
        SlipArchive none = Made.one();
        for (int place : new int[] {-1, 16, FAR[0], FAR[1]}) {
            Due.same("place " + place + " of 3", -1, x.waitsFor(place));
            Due.same("place " + place + " of 16", -1, full.waitsFor(place));
            Due.same("place " + place + " of none", -1, none.waitsFor(place));
        }
        Due.same("place 3 of 3", -1, x.waitsFor(3));
        Due.same("place 0 of none", -1, none.waitsFor(0));
        Due.same("place 15 of 16", 999, full.waitsFor(15));
    }

    private static void nothingChanges() {
        Sentence.of(Sentence.TERMS, "forecasts: what would be if nothing but days happened (beyond DAY 999, too); nothing changes.");
        SlipArchive x = Made.busy();
        for (int mark : new int[] {0, 20, 30, 50, FAR[0], FAR[1]}) {
            x.marked(mark);
            x.found(mark);
            x.looks(mark);
            x.refilePlace(mark);
            x.lookedAt(mark, 1);
            x.at(mark);
            x.waitsFor(mark);
            x.servedIn(mark);
        }
        x.missed();
        x.inversions();
        x.longestOrdered();
        x.mostMisplaced();
        x.mostAsked();
        x.why(0, 0);
        x.cause(1, 2);
        x.gap();
        x.servedBy(60);
        x.waitingIn(60);
        x.servedWith(6);
        x.swapsLeft();
        x.missedAfter(99);
        x.foundShare();
        x.meanWait();
        x.undoCount();
        x.errorPosition();
        Refused.unchanged("questions", Made.busy(), x);
    }
}
