import java.util.function.IntConsumer;

/** Promises 25 to 32, forecasts and measures: a sentence of the document with each test. */
final class ForecastSentences {
    private static final int[] FAR = {Integer.MIN_VALUE, Integer.MAX_VALUE};

    private ForecastSentences() {
    }

    static void ask() {
        servedIn();
        noneServedIn();
        servedBy();
        waitingIn();
        servedWith();
        handsOfForecasts();
        beyondTheLastDay();
        likeDays();
        swapsLeft();
        missedAfter();
        foundShare();
        meanWait();
    }

    /** An exception for each number beyond a range, and none at its ends. */
    private static void range(String call, int least, int most, java.util.function.BiConsumer<SlipArchive, Integer> asked) {
        for (int number : new int[] {least - 1, most + 1, FAR[0], FAR[1]}) {
            Refused.illegal(call + "(" + number + ")", Made::busy, x -> asked.accept(x, number));
        }
        IntConsumer fine = number -> {
            SlipArchive x = Made.busy();
            asked.accept(x, number);
            Refused.unchanged(call + "(" + number + ")", Made.busy(), x);
        };
        fine.accept(least);
        fine.accept(most);
    }

    private static SlipArchive closedUntil(int day) {
        SlipArchive x = Due.made("archive 14 1 1 1;folder 1 until " + day + ";");
        x.slip(0, 0);
        return x;
    }

    private static void servedIn() {
        Sentence.of(25, "Returns behind how many days a slip is served, by its place now;");
        SlipArchive one = Made.one();
        one.slip(0, 0);
        Due.same("on the next day", 1, one.servedIn(0));
        for (int day : new int[] {0, 1, 2, 59, 60}) {
            Due.same("EMBARGO " + day, Math.max(1, day), closedUntil(day).servedIn(0));
        }
        SlipArchive misses = Due.made("archive 14 1 1 1;folder 2;folder 1;");
        misses.slip(0, 1);
        Due.same("found in the whole row on the third day", 3, misses.servedIn(0));
        misses.days(1);
        Due.same("a day later", 2, misses.servedIn(0));
        misses.days(1);
        Due.same("two days later", 1, misses.servedIn(0));
        // 16 slips and one hand: one of them is served on each day
        SlipArchive full = Due.made("archive 14 1 8 5;" + Made.folders(16));
        for (int i = 0; i < 16; i++) {
            full.slip(i / 2, i);
        }
        for (int place = 0; place < 16; place++) {
            Due.same("the slip at " + place, place + 1, full.servedIn(place));
        }
        full.days(3);
        Due.same("its place is that of now", 1, full.servedIn(0));
        Due.same("the last of them", 13, full.servedIn(12));
        // the slip behind takes what the one in the middle waits for
        SlipArchive ahead = Due.made("archive 14 1 2 1;folder 1;folder 2 until 9;folder 3;");
        ahead.slip(0, 0);
        ahead.slip(1, 1);
        ahead.slip(1, 2);
        Due.same("ahead of one that stays", 1, ahead.servedIn(0));
        Due.same("one whose reader has LIMIT folders then", -1, ahead.servedIn(1));
        Due.same("behind one that stays, with one hand", 2, ahead.servedIn(2));
    }

    private static void noneServedIn() {
        Sentence.of(25, "NONE if not within 60, or there is no such place.");
        Due.same("EMBARGO 60", 60, closedUntil(60).servedIn(0));
        Due.same("EMBARGO 61", -1, closedUntil(61).servedIn(0));
        Due.same("EMBARGO 999", -1, closedUntil(999).servedIn(0));
        SlipArchive nearer = closedUntil(61);
        nearer.days(1);
        Due.same("EMBARGO 61 on DAY 1", 60, nearer.servedIn(0));
        SlipArchive full = Made.fullSlips();
        SlipArchive none = Made.one();
        for (int place : new int[] {-1, 16, FAR[0], FAR[1]}) {
            Due.same("place " + place + " of 16", -1, full.servedIn(place));
            Due.same("place " + place + " of none", -1, none.servedIn(place));
        }
        Due.same("place 0 of none", -1, none.servedIn(0));
        SlipArchive one = Made.one();
        one.slip(0, 0);
        Due.same("place 1 of one", -1, one.servedIn(1));
        SlipArchive out = Due.made("archive 1 1 2 1;folder 7;");
        Due.play(out, "slip 0 7;day 1;slip 1 7;");
        Due.same("its folder never comes back", -1, out.servedIn(0));
    }

    private static void servedBy() {
        Sentence.of(26, "Returns folders that go to readers in some days.");
        Due.same("in no days", 0, Made.busy().servedBy(0));
        SlipArchive one = Made.one();
        Due.same("no slips", 0, one.servedBy(60));
        one.slip(0, 0);
        Due.same("in no days, with a slip", 0, one.servedBy(0));
        Due.same("in one day", 1, one.servedBy(1));
        Due.same("in 60 days", 1, one.servedBy(60));
        Due.same("until 60, in 59 days", 0, closedUntil(60).servedBy(59));
        Due.same("until 60, in 60 days", 1, closedUntil(60).servedBy(60));
        Due.same("until 61, in 60 days", 0, closedUntil(61).servedBy(60));
        SlipArchive many = Made.full();
        for (int i = 0; i < 16; i++) {
            many.slip(i / 2, i);
        }
        int[] due = {0, 6, 12, 16, 16};
        for (int days = 0; days < due.length; days++) {
            Due.same("of 16 with 6 hands in " + days, due[days], many.servedBy(days));
        }
        Sentence.of(26, "Throws IllegalArgumentException if days is out of range");
        range("servedBy", 0, 60, (x, days) -> x.servedBy(days));
    }

    private static void waitingIn() {
        Sentence.of(27, "Returns slips that wait behind some days.");
        Due.same("behind no days", 3, Made.busy().waitingIn(0));
        Due.same("no slips", 0, Made.one().waitingIn(60));
        Due.same("all slips, no day", 16, Made.fullSlips().waitingIn(0));
        Due.same("all slips, 60 days", 16, Made.fullSlips().waitingIn(60));
        Due.same("until 60, in 59 days", 1, closedUntil(60).waitingIn(59));
        Due.same("until 60, in 60 days", 0, closedUntil(60).waitingIn(60));
        Due.same("until 61, in 60 days", 1, closedUntil(61).waitingIn(60));
        SlipArchive many = Made.full();
        for (int i = 0; i < 16; i++) {
            many.slip(i / 2, i);
        }
        int[] due = {16, 10, 4, 0, 0};
        for (int days = 0; days < due.length; days++) {
            Due.same("of 16 with 6 hands in " + days, due[days], many.waitingIn(days));
        }
        Sentence.of(27, "Throws IllegalArgumentException if days is out of range");
        range("waitingIn", 0, 60, (x, days) -> x.waitingIn(days));
    }

    private static void servedWith() {
        Sentence.of(28, "Returns how many slips would be served in the next 10 days, if there were so many HANDS.");
        Due.same("no slips", 0, Made.full().servedWith(6));
        for (int day = 9; day <= 11; day++) {
            for (int hands = 1; hands <= 6; hands++) {
                Due.same("until " + day + " with " + hands, day <= 10 ? 1 : 0, closedUntil(day).servedWith(hands));
            }
        }
        SlipArchive many = Due.made("archive 14 3 8 5;" + Made.folders(16));
        for (int i = 0; i < 16; i++) {
            many.slip(i / 2, i);
        }
        int[] due = {10, 16, 16, 16, 16, 16};
        for (int hands = 1; hands <= 6; hands++) {
            Due.same("of 16 with " + hands, due[hands - 1], many.servedWith(hands));
        }
        // 7, 6 and 5 are missed twice and take the one hand on three days each; then 3 is in the middle of 4 3 2 1
        SlipArchive slow = Due.made("archive 14 6 6 1;folder 7;folder 6;folder 5;folder 4;folder 3;folder 2;folder 1;");
        for (int i = 0; i < 6; i++) {
            slow.slip(i, i < 3 ? i : i + 1);
        }
        int[] slowDue = {4, 6, 6, 6, 6, 6};
        for (int hands = 1; hands <= 6; hands++) {
            Due.same("of 6 slow ones with " + hands, slowDue[hands - 1], slow.servedWith(hands));
        }
        Sentence.of(28, "Throws IllegalArgumentException if hands is out of range");
        range("servedWith", 1, 6, (x, hands) -> x.servedWith(hands));
    }

    private static void handsOfForecasts() {
        Sentence.of(28, "hands: 1 to 6");
        SlipArchive x = Due.made("archive 14 1 2 5;" + Made.folders(10));
        for (int folder = 0; folder < 10; folder++) {
            x.slip(folder / 5, folder);
        }
        Due.same("with 6 hands", 10, x.servedWith(6));
        Due.same("HANDS as they were", 1, x.size(2));
        Due.same("the other forecasts with HANDS as they were", 1, x.servedBy(1));
        Due.same("a day with HANDS as they were", 1, x.days(1));
    }

    private static void beyondTheLastDay() {
        Sentence.of(Sentence.TERMS, "what would be if nothing but days happened (beyond DAY 999, too); nothing changes.");
        for (int day : new int[] {940, 990, 998, 999}) {
            SlipArchive x = Made.onDay(day);
            x.slip(0, 0);
            Due.same("servedIn on DAY " + day, 3, x.servedIn(0));
            Due.same("servedBy(2) on DAY " + day, 0, x.servedBy(2));
            Due.same("servedBy(60) on DAY " + day, 1, x.servedBy(60));
            Due.same("waitingIn(2) on DAY " + day, 1, x.waitingIn(2));
            Due.same("waitingIn(60) on DAY " + day, 0, x.waitingIn(60));
            Due.same("servedWith(1) on DAY " + day, 1, x.servedWith(1));
            Due.same("DAY", day, x.size(0));
        }
        // 1008 is the next DAY that can be divided by 14
        SlipArchive last = Made.onDay(998);
        last.slip(0, 2);
        last.days(1);
        last.giveBack(2);
        last.slip(1, 2);
        Due.same("refiled on DAY 1008", 9, last.servedIn(0));
        Due.same("servedBy(8)", 0, last.servedBy(8));
        Due.same("servedBy(9)", 1, last.servedBy(9));
        Due.same("waitingIn(9)", 0, last.waitingIn(9));
        Due.same("servedWith(6)", 1, last.servedWith(6));
        Due.same("days(1)", -2, last.days(1));
    }

    private static void likeDays() {
        Sentence.of(Sentence.TERMS, "what would be if nothing but days happened");
        for (int days = 1; days <= 20; days++) {
            SlipArchive x = Made.busy();
            int served = x.servedBy(days);
            int waiting = x.waitingIn(days);
            int first = x.servedIn(0);
            int reader = x.waiting(0, 0);
            int folder = x.waiting(0, 1);
            Due.same("days(" + days + ")", served, x.days(days));
            Due.same("slips that wait", waiting, x.size(9));
            Due.same("the first slip is gone", first != -1 && first <= days ? -1 : 0, x.cause(reader, folder));
        }
    }

    private static void swapsLeft() {
        Sentence.of(29, "Returns the fewest swaps of neighbours (of check, one behind the other) after which no pair is wrong.");
        Due.same("of an empty row", 0, Made.oneOut().swapsLeft());
        Due.same("of one", 0, Made.one().swapsLeft());
        Due.same("of a full row", 0, Made.full().swapsLeft());
        Due.same("of a full row, reversed", 276, Made.reversed().swapsLeft());
        SlipArchive x = Due.made("archive 1 1 1 1;folder 50;folder 10;folder 40;folder 20;folder 30;");
        for (int left = x.swapsLeft(); left > 0; left--) {
            Due.same("swapsLeft()", left, x.swapsLeft());
            Due.yes("there is a wrong pair", x.size(10) > 0);
            Due.same("check(1)", 1, x.check(1));
        }
        Due.same("no pair is wrong", 0, x.size(10));
        Due.same("check(1) of a row in order", 0, x.check(1));
        SlipArchive reversed = Made.reversed();
        Due.same("99 of 276", 99, reversed.check(99));
        Due.same("177 are left", 177, reversed.swapsLeft());
        Due.same("99 of 177", 99, reversed.check(99));
        Due.same("the others", 78, reversed.check(99));
        Due.same("none is left", 0, reversed.swapsLeft());
        Due.same("no pair is wrong", 0, reversed.size(10));
    }

    private static void missedAfter() {
        Sentence.of(30, "Returns folders in the row that would be missed by halving after some swaps of a check.");
        Due.same("of an empty row", 0, Made.oneOut().missedAfter(99));
        Due.same("of one", 0, Made.one().missedAfter(99));
        Due.same("of a full row", 0, Made.full().missedAfter(0));
        Due.same("of a full row", 0, Made.full().missedAfter(99));
        Due.same("of a full row, reversed", 23, Made.reversed().missedAfter(0));
        SlipArchive reversed = Made.reversed();
        int after = reversed.missedAfter(99);
        reversed.check(99);
        Due.same("99 swaps of many", reversed.missed(), after);
        SlipArchive x = Due.made("archive 1 1 1 1;folder 50;folder 40;folder 30;folder 20;folder 10;");
        for (int swaps = 0; swaps <= 12; swaps++) {
            SlipArchive y = Due.made("archive 1 1 1 1;folder 50;folder 40;folder 30;folder 20;folder 10;");
            for (int i = 0; i < swaps; i++) {
                y.check(1);
            }
            Due.same("missedAfter(" + swaps + ")", y.missed(), x.missedAfter(swaps));
        }
        Due.same("missed() as it was", 4, x.missed());
        Sentence.of(30, "Throws IllegalArgumentException if swaps is out of range");
        range("missedAfter", 0, 99, (y, swaps) -> y.missedAfter(swaps));
    }

    private static void foundShare() {
        Sentence.of(31, "Returns folders in the row that are found by halving now, divided by all in the row, as floats (both converted, then"
            + " divided);");
        Due.same("of one", 1.0f, Made.one().foundShare());
        Due.same("of a full row", 1.0f, Made.full().foundShare());
        Due.same("of a full row, reversed", 1.0f / 24.0f, Made.reversed().foundShare());
        Due.same("of two, reversed", 0.5f, Due.made("archive 1 1 1 1;folder 2;folder 1;").foundShare());
        Due.same("of three, reversed", 1.0f / 3.0f, Due.made("archive 1 1 1 1;folder 3;folder 2;folder 1;").foundShare());
        SlipArchive seven = Due.made("archive 1 1 1 1;" + Made.folders(7));
        seven.misfile(6, 0);
        Due.same("of seven", (7 - seven.missed()) / 7.0f, seven.foundShare());
        Sentence.of(31, "0 if the row is empty.");
        Due.same("with a reader", 0.0f, Made.oneOut().foundShare());
        Due.same("all with readers", 0.0f, Made.allOut().foundShare());
        Due.same("all on the trolley", 0.0f, Made.fullTrolley().foundShare());
    }

    private static void meanWait() {
        Sentence.of(32, "Returns account 10 divided by account 4, as doubles (both converted, then divided);");
        Due.same("of one", 1.0, Made.oneOut().meanWait());
        SlipArchive out = Made.allOut();
        // 6 waited for one day, 6 for two, 4 for three; then 6 for one and 2 for two
        Due.same("account(10)", 6 + 12 + 12 + 6 + 4, out.account(10));
        Due.same("of 24", 40.0 / 24.0, out.meanWait());
        SlipArchive three = Due.made("archive 14 2 3 1;folder 1;folder 2;folder 3;");
        Due.play(three, "slip 0 1;slip 1 2;slip 2 3;day 2;");
        Due.same("of three", 4.0 / 3.0, three.meanWait());
        three.slip(0, 1);
        three.slip(1, 2);
        Due.same("slips that wait do not count", 4.0 / 3.0, three.meanWait());
        three.undo();
        three.undo();
        three.undo();
        Due.same("it is taken back", 0.0, three.meanWait());
        SlipArchive last = Made.onDay(939);
        last.setEmbargo(2, 999);
        last.slip(0, 2);
        last.days(60);
        Due.same("60 days", 60.0, last.meanWait());
        Sentence.of(32, "0 if that is 0.");
        Due.same("none was served", 0.0, Made.full().meanWait());
        Due.same("none was served, slips wait", 0.0, Made.fullSlips().meanWait());
        Due.load(out, "archive 1 1 1 1;folder 7;");
        Due.same("of a new text", 0.0, out.meanWait());
    }
}
