/** The section on a day, and the accounts: a sentence of the document with each test. */
final class DaySentences {
    private DaySentences() {
    }

    static void ask() {
        dayIsOneMore();
        refilingDays();
        refilingOrder();
        refiledWhere();
        fullTrolley();
        slipBySlip();
        idleOnes();
        hands();
        tries();
        foundOrMissed();
        lastingAccounts();
        scriptAccounts();
        accountsOfTheText();
        accountsOfSearches();
    }

    private static void dayIsOneMore() {
        Sentence.of(Sentence.TERMS, "DAY is 0 at first.");
        Due.same("of a new object", 0, new SlipArchive().size(0));
        SlipArchive x = Made.onDay(999);
        Due.load(x, "archive 1 1 1 1;folder 1;");
        Due.same("of a new text", 0, x.size(0));
        Sentence.of(Sentence.TERMS, "DAY becomes 1 more.");
        x.days(1);
        Due.same("behind a day", 1, x.size(0));
        x.days(60);
        Due.same("behind 60 days", 61, x.size(0));
    }

    private static void refilingDays() {
        Sentence.of(Sentence.TERMS, "Then, if DAY can be divided by PERIOD (1 to 14) without a rest, it is a refiling day:");
        for (int period = 1; period <= 14; period++) {
            SlipArchive x = Due.made("archive " + period + " 1 1 1;folder 7;");
            x.slip(0, 0);
            for (int day = 1; day <= 43; day++) {
                x.days(1);
                if (x.folder(0, 2) == 1) {
                    Due.same("given back", 0, x.giveBack(0));
                } else {
                    Due.same("PERIOD " + period + ", DAY " + day + ": STATE", day % period == 0 ? 0 : 2, x.folder(0, 2));
                    if (x.folder(0, 2) == 0) {
                        x.slip(0, 0);
                    }
                }
            }
        }
        // it is the DAY that counts, not when the folder came
        SlipArchive late = Due.made("archive 14 1 1 1;folder 7;");
        late.slip(0, 0);
        late.days(13);
        late.giveBack(0);
        late.days(1);
        Due.same("one that came on DAY 13 is refiled on DAY 14", 0, late.folder(0, 2));
    }

    private static SlipArchive thirtyTen() {
        // 20 and 40 go out; 30 10 are left in the row
        SlipArchive x = Due.made("archive 9 2 1 5;folder 30;folder 10;folder 20;folder 40;");
        x.slip(0, 2);
        x.slip(0, 3);
        x.days(3);
        return x;
    }

    private static void refilingOrder() {
        Sentence.of(Sentence.TERMS, "each folder on the trolley, that which came first ahead of the others, is put into the row:");
        SlipArchive x = thirtyTen();
        Due.same("the row", "30!10|", Due.formatted(x));
        x.giveBack(2);
        x.giveBack(3);
        x.days(6);
        Due.same("20 ahead of 40", "20 30!10 40|", Due.formatted(x));
        SlipArchive y = thirtyTen();
        y.giveBack(3);
        y.giveBack(2);
        y.days(6);
        Due.same("40 ahead of 20", "30!10 20 40|", Due.formatted(y));
    }

    private static void refiled(String row, int mark, String due) {
        // the folder goes out of a row of its own, and comes back to the one that is asked for
        SlipArchive x = Due.made("archive 9 1 1 1;folder " + mark + ";" + row);
        x.slip(0, 0);
        for (int search = 0; search < 3 && x.folder(0, 2) == 0; search++) {
            x.days(1);
        }
        x.giveBack(0);
        int looks = x.looks(mark);
        int counted = x.account(7);
        x.days(9 - x.size(0));
        Due.same("the row with " + mark, due + "|", Due.formatted(x));
        Due.same("account(7) counts the looks", counted + looks, x.account(7));
        Due.same("account(8)", 1, x.account(8));
        Due.same("account(5) counts no refiling", x.account(6) * 2, x.account(5));
    }

    private static void refiledWhere() {
        Sentence.of(Sentence.TERMS, "by halving as if its MARK was looked for (it is missed, of course), at the place of the last folder looked at,"
            + " if that has a greater MARK, otherwise behind it (at place 0 of an empty row).");
        refiled("", 5, "5");
        refiled("folder 6;", 5, "5 6");
        refiled("folder 4;", 5, "4 5");
        refiled("folder 2;folder 4;folder 6;", 1, "1 2 4 6");
        refiled("folder 2;folder 4;folder 6;", 3, "2 3 4 6");
        refiled("folder 2;folder 4;folder 6;", 5, "2 4 5 6");
        refiled("folder 2;folder 4;folder 6;", 7, "2 4 6 7");
        refiled("folder 6;folder 4;folder 2;", 5, "6!4!2 5");
        refiled("folder 6;folder 4;folder 2;", 3, "3 6!4!2");
        refiled("folder 6;folder 4;folder 2;", 1, "1 6!4!2");
        refiled("folder 0;folder 9999;", 5000, "0 5000 9999");
    }

    private static void fullTrolley() {
        Sentence.of(Sentence.TERMS, "There are 1 to 24 folders, numbered from 0,");
        SlipArchive x = Made.fullTrolley();
        Due.same("days to DAY 13", 0, x.days(8));
        Due.same("all are on the trolley", 24, x.size(8));
        x.days(1);
        Due.same("DAY 14: the trolley is empty", 0, x.size(8));
        Due.same("DAY 14: the row is full", 24, x.size(6));
        Due.same("in order", 0, x.size(10));
        Due.same("account(8)", 24, x.account(8));
        for (int place = 0; place < 24; place++) {
            Due.same("at(" + place + ")", place, x.at(place));
        }
    }

    private static void slipBySlip() {
        Sentence.of(Sentence.TERMS, "Slips wait in the order in which they came; at most 16 do.");
        SlipArchive full = Made.fullSlips();
        Due.same("16 slips", 16, full.size(9));
        Due.same("a 17th", -4, full.slip(0, 2));
        for (int place = 0; place < 16; place++) {
            Due.same("the reader of slip " + place, place / 2, full.waiting(place, 0));
        }
        Sentence.of(Sentence.TERMS, "Then clerks look for folders: slip by slip, in their order;");
        SlipArchive x = Due.made("archive 9 1 3 1;folder 1;folder 2;");
        x.slip(2, 1);
        x.slip(0, 1);
        x.slip(1, 0);
        Due.same("a day", 1, x.days(1));
        Due.same("the first one gets it", 2, x.folder(1, 3));
        Due.same("a day", 1, x.days(1));
        Due.same("the next one is idle, the third is served", 1, x.folder(0, 3));
        Due.same("the second one waits", 1, x.size(9));
        Due.same("it is the one of reader 0", 0, x.waiting(0, 0));
    }

    private static void idleOnes() {
        Sentence.of(Sentence.TERMS, "idle ones are passed over.");
        // one hand; the slips ahead are idle for each of the four reasons
        SlipArchive x = Due.made("archive 9 1 3 1;folder 1;folder 2;folder 3 until 8;folder 4;folder 5;");
        Due.play(x, "slip 0 1;slip 1 2;day 2;return 2;slip 1 1;slip 1 2;slip 1 3;slip 0 5;slip 2 4;");
        for (int place = 0; place < 4; place++) {
            Due.same("why the slip at " + place + " is idle", place + 1, x.waiting(place, 4));
        }
        Due.same("the fifth is served", 1, x.days(1));
        Due.same("it went to reader 2", 2, x.folder(3, 3));
        for (int place = 0; place < 4; place++) {
            Due.same("idle ones keep their place", place + 1, x.waiting(place, 4));
            Due.same("and their TRIES", 0, x.waiting(place, 3));
        }
        int looks = x.account(7);
        Due.same("all are idle", 0, x.days(1));
        Due.same("no search is made", looks, x.account(7));
        // on the refiling day the one on the trolley can be served, on DAY 8 the closed one
        Due.same("until DAY 8", 0, x.days(3));
        Due.same("DAY 8: the closed one", 1, x.days(1));
        Due.same("it is 3", 1, x.folder(2, 2));
        SlipArchive same = Due.made("archive 2 6 2 1;folder 1;folder 2;");
        Due.play(same, "slip 0 1;day 1;return 1;slip 1 1;");
        Due.same("refiled and found on one day", 1, same.days(1));
        // what an earlier slip took on this day makes a later one idle
        SlipArchive limit = Due.made("archive 9 6 1 2;folder 1;folder 2;folder 3;");
        Due.play(limit, "slip 0 1;slip 0 2;slip 0 3;");
        Due.same("LIMIT 2", 2, limit.days(1));
        Due.same("no search for the third", 3, limit.account(7));
        Due.same("it is idle by 4", 4, limit.waiting(0, 4));
    }

    private static void hands() {
        Sentence.of(Sentence.TERMS, "For each other one, as long as fewer than HANDS (1 to 6) searches were made on this day, a search is made:");
        for (int hands = 1; hands <= 6; hands++) {
            SlipArchive x = Due.made("archive 14 " + hands + " 8 5;" + Made.folders(16));
            for (int i = 0; i < 8; i++) {
                x.slip(i, i);
            }
            Due.same("HANDS " + hands, hands, x.days(1));
            Due.same("the others wait", 8 - hands, x.size(9));
            Due.same("on the next day", Math.min(hands, 8 - hands), x.days(1));
            // a search that misses takes a hand, too: 4 is in the middle of 7 to 1
            SlipArchive misses = Due.made("archive 14 " + hands + " 7 1;folder 7;folder 6;folder 5;folder 4;folder 3;folder 2;folder 1;");
            for (int i = 0; i < 7; i++) {
                misses.slip(i, (i + 4) % 7);
            }
            Due.same("searches that miss with HANDS " + hands, hands, misses.days(1) + misses.account(5));
            for (int place = 0; place < 6; place++) {
                Due.same("TRIES of slip " + place, place < hands ? 1 : 0, misses.waiting(place, 3));
            }
        }
        // searches through the whole row take a hand, too
        SlipArchive whole = Due.made("archive 14 1 2 1;folder 2;folder 1;");
        Due.play(whole, "slip 0 1;day 2;slip 1 2;");
        Due.same("the whole row", 1, whole.days(1));
        Due.same("for the first slip", 1, whole.folder(1, 2));
        Due.same("and no other", 0, whole.folder(0, 2));
        // refiling is no search of the clerks: on the same day as many are made as on others
        for (int hands = 1; hands <= 6; hands++) {
            SlipArchive refiling = Due.made("archive 6 " + hands + " 8 5;" + Made.folders(16));
            Due.play(refiling, "slip 0 9010;slip 0 9011;slip 0 9012;slip 0 9013;day 3;return 9010;return 9011;return 9012;day 2;");
            for (int i = 0; i < 8; i++) {
                refiling.slip(i, i);
            }
            Due.same("on a refiling day with HANDS " + hands, hands, refiling.days(1));
            Due.same("what was refiled on it", 3, refiling.account(8));
        }
    }

    private static void tries() {
        Sentence.of(Sentence.TERMS, "by halving, if TRIES is below 2; otherwise through the whole row.");
        SlipArchive x = Due.made("archive 14 1 1 1;folder 2;folder 1;");
        x.slip(0, 1);
        int[][] due = {{0, 1, 1, 0, 1}, {0, 2, 2, 0, 2}, {1, -1, 2, 1, 2}};
        for (int day = 0; day < due.length; day++) {
            Due.same("served on day " + (day + 1), due[day][0], x.days(1));
            Due.same("TRIES on day " + (day + 1), due[day][1], x.waiting(0, 3));
            Due.same("account(5) on day " + (day + 1), due[day][2], x.account(5));
            Due.same("account(6) on day " + (day + 1), due[day][3], x.account(6));
            Due.same("account(7) on day " + (day + 1), due[day][4], x.account(7));
        }
        // with TRIES 2 the whole row is gone through, though halving would find it
        SlipArchive y = Due.made("archive 14 1 1 1;folder 2;folder 1;");
        y.slip(0, 1);
        y.days(2);
        y.check(1);
        Due.same("halving would find it", 0, y.found(1));
        Due.same("served", 1, y.days(1));
        Due.same("through the whole row", 1, y.account(6));
        Due.same("not by halving", 2, y.account(7));
        // with TRIES 1 it is looked for by halving
        SlipArchive z = Due.made("archive 14 1 1 1;folder 2;folder 1;");
        z.slip(0, 1);
        z.days(1);
        z.check(1);
        Due.same("served on the second day", 1, z.days(1));
        Due.same("not through the whole row", 0, z.account(6));
        Due.same("by halving", 2, z.account(7));
        // the first and the last folder of a full row, reversed
        SlipArchive ends = Made.reversed();
        ends.slip(0, 0);
        ends.slip(1, 23);
        Due.same("found in the whole row", 2, ends.days(3));
        Due.same("account(6)", 2, ends.account(6));
    }

    private static void foundOrMissed() {
        Sentence.of(Sentence.TERMS, "If the folder is found, it goes to the reader, and the slip is gone; if it is missed, TRIES becomes 1 more.");
        SlipArchive x = Due.made("archive 14 6 2 5;folder 1;folder 3;folder 2;folder 4;");
        x.slip(0, 2);
        x.slip(1, 0);
        x.slip(1, 3);
        Due.same("two are found", 2, x.days(1));
        Due.same("it is with the reader", 1, x.folder(0, 2));
        Due.same("with reader 1", 1, x.folder(0, 3));
        Due.same("the other, too", 1, x.folder(3, 3));
        Due.same("reader 1 has both", 2, x.reader(1, 0));
        Due.same("reader 0 has none", 0, x.reader(0, 0));
        Due.same("the row is shorter", "3!2|", Due.formatted(x));
        Due.same("one slip waits", 1, x.size(9));
        Due.same("the one that was missed", 2, x.waiting(0, 1));
        Due.same("its TRIES", 1, x.waiting(0, 3));
        Due.same("its folder stays in the row", 0, x.folder(2, 2));
    }

    private static void lastingAccounts() {
        Sentence.of(Sentence.TERMS, "0 operations that were done (each order of a script, too, but not play itself),");
        SlipArchive x = new SlipArchive();
        x.slip(0, 0);
        x.dropSlip(0);
        x.slip(0, 0);
        x.days(1);
        x.giveBack(0);
        x.misfile(1, 0);
        x.straighten(1);
        x.check(1);
        x.setEmbargo(0, 1);
        Due.same("each operation", "9 0 0", Due.lasting(x));
        x.play(0);
        Due.same("a play of no orders", "9 0 0", Due.lasting(x));
        Due.play(x, "day 1;day 1;day 1;");
        Due.same("a play of three", "12 0 0", Due.lasting(x));
        x.feed(0, 0, 0, 0, 0);
        x.load(0);
        x.format();
        x.saveSnapshot();
        x.restoreSnapshot();
        x.undo();
        Due.same("other calls", "12 0 0", Due.lasting(x));
        Sentence.of(Sentence.TERMS, "1 those that were refused with an error code");
        x.dropSlip(0);
        x.giveBack(0);
        Due.same("two that were refused", "12 2 0", Due.lasting(x));
        Sentence.of(Sentence.TERMS, "not texts with errors, nor exceptions outside of scripts");
        Due.play(x, "day");
        Due.load(x, "archive");
        Due.illegal("days(0)", () -> x.days(0));
        Due.noSuch("giveBack(5)", () -> x.giveBack(5));
        Due.same("they are not counted", "12 2 0", Due.lasting(x));
        Sentence.of(Sentence.TERMS, "2 operations that were undone;");
        x.slip(0, 1);
        x.slip(0, 2);
        x.undo();
        Due.same("one", "14 2 1", Due.lasting(x));
        x.undo();
        Due.same("two", "14 2 2", Due.lasting(x));
        Due.same("no more", -1, x.undo());
        Due.same("undo of nothing is not counted", "14 2 2", Due.lasting(x));
        Due.play(x, "day 1;day 1;drop 0;");
        x.undo();
        Due.same("a play is one operation", "16 3 3", Due.lasting(x));
        Sentence.of(Sentence.TERMS, "these are counted since the object was made.");
        Due.load(x, "archive 1 1 1 1;folder 7;");
        Due.same("behind a text", "16 3 3", Due.lasting(x));
    }

    private static void scriptAccounts() {
        Sentence.of(Sentence.TERMS, "in scripts also orders that would throw an exception;");
        for (String order : new String[] {"slip 2 10;", "slip 0 11;", "slip 7 9999;", "return 11;", "misfile 11 0;", "until 11 5;",
            "drop 0;", "return 10;", "misfile 10 5;"}) {
            SlipArchive x = new SlipArchive();
            Due.same("play of " + order, 0, Due.play(x, order));
            Due.same("accounts behind " + order, "0 1 0", Due.lasting(x));
        }
        SlipArchive last = Made.onDay(999);
        Due.same("a day beyond DAY 999", 0, Due.play(last, "day 1;"));
        Due.same("it is refused", 1, last.account(1));
        Sentence.of(Sentence.TERMS, "A script ends at the first order that is refused (returns a negative error code, or would throw an exception).");
        SlipArchive x = new SlipArchive();
        Due.same("behind a code", 1, Due.play(x, "day 1;drop 0;day 1;drop 0;"));
        Due.same("DAY", 1, x.size(0));
        Due.same("accounts", "1 1 0", Due.lasting(x));
        Due.same("behind an exception", 2, Due.play(x, "day 1;day 1;return 77;day 1;"));
        Due.same("DAY", 3, x.size(0));
        Due.same("accounts", "3 2 0", Due.lasting(x));
        Due.same("at the last of 20", 19, Due.play(x, "check 1;".repeat(19) + "drop 15;"));
        Due.same("at the first", 0, Due.play(x, "drop 15;" + "check 1;".repeat(19)));
    }

    private static void accountsOfTheText() {
        Sentence.of(Sentence.TERMS, "3 slips that were handed in, 4 folders that went to readers,");
        SlipArchive x = Due.made("archive 2 6 2 5;folder 1;folder 3;folder 2;");
        x.slip(0, 0);
        x.slip(0, 0);
        x.slip(1, 0);
        x.dropSlip(1);
        Due.same("two were handed in, one was dropped", 2, x.account(3));
        Due.same("none went out", 0, x.account(4));
        x.days(1);
        Due.same("one went out", 1, x.account(4));
        x.giveBack(0);
        x.slip(1, 0);
        x.days(1);
        Due.same("three were handed in", 3, x.account(3));
        Due.same("one went out twice", 2, x.account(4));
        Sentence.of(Sentence.TERMS, "8 folders that were refiled,");
        Due.same("one", 1, x.account(8));
        x.giveBack(0);
        x.days(2);
        Due.same("two", 2, x.account(8));
        Sentence.of(Sentence.TERMS, "9 neighbours that were swapped by checks,");
        x.misfile(1, 2);
        x.straighten(1);
        Due.same("misfile and straighten count nothing", 0, x.account(9));
        x.misfile(0, 2);
        x.check(1);
        Due.same("one swap", 1, x.account(9));
        x.check(99);
        Due.same("all of them", 2, x.account(9));
        x.check(99);
        Due.same("no more", 2, x.account(9));
        x.undo();
        x.undo();
        Due.same("undo takes them back", 1, x.account(9));
        Sentence.of(Sentence.TERMS, "10 days that slips waited that were served, all together (DAY then less the DAY on which they were handed in).");
        Due.same("two of one day each", 2, x.account(10));
        SlipArchive y = Due.made("archive 9 1 2 5;folder 1;folder 2 until 60;folder 3;");
        y.slip(0, 1);
        y.days(58);
        y.slip(1, 0);
        y.slip(1, 2);
        y.dropSlip(2);
        Due.same("none was served", 0, y.account(10));
        y.days(1);
        Due.same("one day", 1, y.account(10));
        y.days(1);
        Due.same("and 60 days", 61, y.account(10));
    }

    private static void accountsOfSearches() {
        Sentence.of(Sentence.TERMS, "5 searches that missed, 6 searches through the whole row,");
        SlipArchive x = Due.made("archive 2 6 2 5;folder 3;folder 2;folder 1;");
        x.slip(0, 0);
        x.slip(0, 2);
        x.found(3);
        x.missed();
        x.servedBy(60);
        Due.same("questions are no searches", 0, x.account(5) + x.account(6) + x.account(7));
        x.days(1);
        Due.same("two missed", 2, x.account(5));
        x.days(1);
        Due.same("four missed", 4, x.account(5));
        Due.same("none through the whole row", 0, x.account(6));
        x.days(1);
        Due.same("no more missed", 4, x.account(5));
        Due.same("two through the whole row", 2, x.account(6));
        Sentence.of(Sentence.TERMS, "7 folders that were looked at in all searches of days by halving (also for refiling),");
        Due.same("two for each of four searches", 8, x.account(7));
        x.giveBack(0);
        x.giveBack(2);
        x.days(1);
        // 3 behind 2, then 1: 2 is looked at, found at the first place
        Due.same("one for 3, one for 1", 10, x.account(7));
        Due.same("the row", "1 2 3|", Due.formatted(x));
        Due.same("refiling misses nothing", 4, x.account(5));
        x.slip(1, 0);
        x.days(1);
        Due.same("two to find 3", 12, x.account(7));
        Due.load(x, "archive 2 6 2 5;folder 3;");
        Sentence.of(Sentence.TERMS, "Since the text was read:");
        for (int account = 3; account <= 10; account++) {
            Due.same("account(" + account + ") of a new text", 0, x.account(account));
        }
    }
}
