/** Promises 33 to 40: operations that are calls of their own. */
final class OperationTest {
    public static void main(String[] args) {
        slip();
        dropSlip();
        giveBack();
        days();
        aDay();
        refiling();
        searches();
        misfile();
        straighten();
        check();
        setEmbargo();
        Due.end();
    }

    /** Runs a call that is refused, and looks whether it changes nothing but account 1. */
    private static void refused(SlipArchive x, String call, int code, java.util.function.IntSupplier run) {
        String state = Due.brief(x);
        int done = x.account(0);
        int refused = x.account(1);
        int undone = x.account(2);
        int undo = x.undoCount();
        Due.same(call, code, run.getAsInt());
        Due.same("state behind " + call, state, Due.brief(x));
        Due.same("accounts behind " + call, done + " " + (refused + 1) + " " + undone, Due.lasting(x));
        Due.same("undoCount behind " + call, undo, x.undoCount());
    }

    private static void unchanged(SlipArchive x, String state, String lasting, int undo) {
        Due.same("state behind exceptions", state, Due.brief(x));
        Due.same("accounts behind exceptions", lasting, Due.lasting(x));
        Due.same("undoCount behind exceptions", undo, x.undoCount());
    }

    private static void slip() {
        SlipArchive x = new SlipArchive();
        Due.same("slip(0, 4)", 0, x.slip(0, 4));
        Due.same("slip(1, 4)", 1, x.slip(1, 4));
        Due.same("slip(1, 2) for a closed folder", 2, x.slip(1, 2));
        Due.same("account(3)", 3, x.account(3));
        refused(x, "slip(1, 4) again", -3, () -> x.slip(1, 4));
        x.days(3);
        refused(x, "slip of the reader who has it", -2, () -> x.slip(0, 4));
        Due.same("slip for a folder that another has", 2, x.slip(0, 2));
        String state = Due.brief(x);
        Due.noSuch("slip(-1, 0)", () -> x.slip(-1, 0));
        Due.noSuch("slip(2, 0)", () -> x.slip(2, 0));
        Due.noSuch("slip(0, -1)", () -> x.slip(0, -1));
        Due.noSuch("slip(0, 5)", () -> x.slip(0, 5));
        unchanged(x, state, "5 2 0", 5);
        fullSlips();
    }

    private static void fullSlips() {
        SlipArchive x = Due.made("archive 1 1 8 1;folder 1;folder 2;folder 3;folder 4;");
        x.slip(7, 3);
        x.days(1);
        for (int i = 0; i < 16; i++) {
            Due.same("slip " + i, i, x.slip(i / 3, i % 3));
        }
        refused(x, "the 17th slip", -4, () -> x.slip(5, 1));
        refused(x, "one that waits, of 16", -3, () -> x.slip(0, 0));
        refused(x, "one who has it, with 16 slips", -2, () -> x.slip(7, 3));
        Due.same("one is dropped", 15, x.dropSlip(7));
        Due.same("then there is room", 15, x.slip(5, 1));
    }

    private static void dropSlip() {
        SlipArchive x = new SlipArchive();
        refused(x, "dropSlip(0) of none", -2, () -> x.dropSlip(0));
        x.slip(0, 0);
        x.slip(0, 1);
        x.slip(1, 2);
        refused(x, "dropSlip(3)", -2, () -> x.dropSlip(3));
        refused(x, "dropSlip(-1)", -2, () -> x.dropSlip(-1));
        refused(x, "dropSlip(max)", -2, () -> x.dropSlip(Integer.MAX_VALUE));
        Due.same("dropSlip(1)", 2, x.dropSlip(1));
        Due.same("the slip behind it moves up", 2, x.waiting(1, 1));
        Due.same("dropSlip(0)", 1, x.dropSlip(0));
        Due.same("dropSlip(0) again", 0, x.dropSlip(0));
        Due.same("account(3) counts dropped slips, too", 3, x.account(3));
        Due.same("account(0)", 6, x.account(0));
    }

    private static void giveBack() {
        SlipArchive x = new SlipArchive();
        x.slip(1, 1);
        x.slip(0, 0);
        x.days(1);
        refused(x, "giveBack of one in the row", -2, () -> x.giveBack(3));
        Due.same("giveBack(1)", 1, x.giveBack(1));
        Due.same("giveBack(0)", 0, x.giveBack(0));
        refused(x, "giveBack of one on the trolley", -2, () -> x.giveBack(1));
        Due.same("the trolley", "30 50!40|20 10", Due.formatted(x));
        String state = Due.brief(x);
        Due.noSuch("giveBack(5)", () -> x.giveBack(5));
        Due.noSuch("giveBack(-1)", () -> x.giveBack(-1));
        unchanged(x, state, "5 2 0", 5);
    }

    private static void days() {
        SlipArchive x = new SlipArchive();
        x.slip(0, 4);
        x.slip(0, 0);
        x.slip(1, 1);
        Due.same("days(3)", 3, x.days(3));
        Due.same("days(60)", 0, x.days(60));
        Due.same("DAY", 63, x.size(0));
        for (int i = 0; i < 15; i++) {
            x.days(60);
        }
        Due.same("DAY later", 963, x.size(0));
        refused(x, "days(37) above 999", -2, () -> x.days(37));
        Due.same("days(36) to 999", 0, x.days(36));
        refused(x, "days(1) above 999", -2, () -> x.days(1));
        String state = Due.brief(x);
        Due.illegal("days(0)", () -> x.days(0));
        Due.illegal("days(61)", () -> x.days(61));
        Due.illegal("days(-1)", () -> x.days(-1));
        Due.illegal("days(max)", () -> x.days(Integer.MAX_VALUE));
        unchanged(x, state, "21 2 0", 8);
    }

    private static void aDay() {
        // idle slips take no hand; what an earlier slip took makes a later one idle on the same day
        SlipArchive x = Due.made("archive 9 2 3 1;folder 1;folder 2;folder 3 until 3;folder 4;");
        x.slip(0, 2);
        x.slip(0, 0);
        x.slip(1, 0);
        x.slip(0, 1);
        x.slip(1, 1);
        x.slip(2, 3);
        Due.same("a day with two hands", 2, x.days(1));
        Due.same("0 has 1", 0, x.folder(0, 3));
        Due.same("1 has 2", 1, x.folder(1, 3));
        Due.same("reasons to be idle", "3 1 1 0", idle(x));
        Due.same("one hand is enough", 1, x.days(1));
        Due.same("account(7)", 6, x.account(7));
        x.giveBack(0);
        Due.same("the trolley waits for a refiling day", "3 2 1", idle(x));
        Due.same("the embargo ends", 1, x.days(1));
        Due.same("DAY", 3, x.size(0));
        Due.same("account(10)", 1 + 1 + 2 + 3, x.account(10));
        Due.same("0 has 3", 0, x.folder(2, 3));
        Due.same("an empty row", "|1", Due.formatted(x));
    }

    private static String idle(SlipArchive x) {
        StringBuilder all = new StringBuilder();
        for (int place = 0; place < x.size(9); place++) {
            all.append(place > 0 ? " " : "").append(x.waiting(place, 4));
        }
        return all.toString();
    }

    private static void refiling() {
        // refiled folders can be found on the same day; the trolley's order counts in a row out of order
        SlipArchive x = Due.made("archive 4 6 2 5;folder 30;folder 50;folder 10;folder 40;folder 20;");
        for (int folder = 0; folder < 5; folder++) {
            x.slip(0, folder);
        }
        Due.same("all go out", 5, x.days(3));
        Due.same("an empty row", "|", Due.formatted(x));
        int looks = x.account(7);
        x.giveBack(3);
        x.giveBack(0);
        x.giveBack(4);
        x.giveBack(1);
        Due.same("the trolley", "|40 30 20 50", Due.formatted(x));
        x.slip(1, 4);
        Due.same("a slip on the refiling day", 1, x.days(1));
        Due.same("refiled in order", "30 40 50|", Due.formatted(x));
        Due.same("account(8)", 4, x.account(8));
        // 0 for 40, 1 for 30, 1 for 20 (30 is looked at), 2 for 50; the search for 20 looks at 30 and 20
        Due.same("account(7)", looks + 0 + 1 + 1 + 2 + 2, x.account(7));
        x.misfile(3, 0);
        x.giveBack(2);
        Due.same("40 30 50", "40!30 50|10", Due.formatted(x));
        int missed = x.account(5);
        x.days(4);
        Due.same("refiled ahead of 40, which was looked at last", "10 40!30 50|", Due.formatted(x));
        Due.same("refiling is no search that missed", missed, x.account(5));
        SlipArchive daily = Due.made("archive 1 1 1 1;folder 9;");
        daily.slip(0, 0);
        daily.days(1);
        daily.giveBack(0);
        daily.days(1);
        Due.same("each day is a refiling day", "9|", Due.formatted(daily));
    }

    private static void searches() {
        // 30 20 10: halving looks at 20, then at 30 for 10; of 30 20 it looks at 30 alone for 20
        SlipArchive x = Due.made("archive 14 1 2 2;folder 30;folder 20;folder 10;");
        x.slip(0, 2);
        x.slip(1, 1);
        x.slip(1, 0);
        int[][] due = {
            // served, TRIES of the first slip, accounts 5, 6 and 7
            {0, 1, 1, 0, 2}, {0, 2, 2, 0, 4}, {1, 0, 2, 1, 4}, {0, 1, 3, 1, 5}, {0, 2, 4, 1, 6},
            {1, 0, 4, 2, 6}, {1, -1, 4, 2, 7}, {0, -1, 4, 2, 7},
        };
        for (int day = 0; day < due.length; day++) {
            String when = "day " + (day + 1) + ": ";
            Due.same(when + "served", due[day][0], x.days(1));
            Due.same(when + "TRIES", due[day][1], x.waiting(0, 3));
            Due.same(when + "account(5)", due[day][2], x.account(5));
            Due.same(when + "account(6)", due[day][3], x.account(6));
            Due.same(when + "account(7)", due[day][4], x.account(7));
        }
        Due.same("account(4)", 3, x.account(4));
        Due.same("account(10)", 3 + 6 + 7, x.account(10));
        // TRIES go with the slip: a new one for the same folder starts with 0
        SlipArchive y = Due.made("archive 14 1 2 2;folder 30;folder 20;folder 10;");
        y.slip(0, 0);
        y.days(2);
        y.dropSlip(0);
        y.slip(0, 0);
        Due.same("TRIES of a new slip", 0, y.waiting(0, 3));
    }

    private static void misfile() {
        SlipArchive x = new SlipArchive();
        Due.same("misfile(0, 2)", 0, x.misfile(0, 2));
        Due.same("behind it", "20 30!10 50!40|", Due.formatted(x));
        Due.same("misfile(4, 0)", 4, x.misfile(4, 0));
        Due.same("behind it", "40!20 30!10 50|", Due.formatted(x));
        Due.same("misfile(1, 4)", 1, x.misfile(1, 4));
        Due.same("behind it", "40!30!10 50!20|", Due.formatted(x));
        Due.same("misfile to its own place", 4, x.misfile(1, 4));
        Due.same("nothing moved", "40!30!10 50!20|", Due.formatted(x));
        refused(x, "misfile(1, 5)", -3, () -> x.misfile(1, 5));
        refused(x, "misfile(1, -1)", -3, () -> x.misfile(1, -1));
        x.slip(0, 0);
        x.days(3);
        refused(x, "misfile of one with a reader", -2, () -> x.misfile(0, 0));
        refused(x, "misfile of one with a reader to no place", -2, () -> x.misfile(0, 9));
        x.giveBack(0);
        refused(x, "misfile of one on the trolley", -2, () -> x.misfile(0, 0));
        refused(x, "misfile(1, 4) of a shorter row", -3, () -> x.misfile(1, 4));
        String state = Due.brief(x);
        Due.noSuch("misfile(5, 0)", () -> x.misfile(5, 0));
        Due.noSuch("misfile(-1, 9)", () -> x.misfile(-1, 9));
        unchanged(x, state, "7 6 0", 7);
        Due.same("account(9) counts no misfiling", 0, x.account(9));
    }

    private static void straighten() {
        SlipArchive x = Due.made("archive 9 1 1 1;folder 50;folder 30;folder 10;folder 40;folder 20;");
        Due.same("straighten(0)", 4, x.straighten(0));
        Due.same("behind it", "30!10 40!20 50|", Due.formatted(x));
        Due.same("straighten(2)", 0, x.straighten(2));
        Due.same("behind it", "10 30 40!20 50|", Due.formatted(x));
        Due.same("straighten(1)", 2, x.straighten(1));
        Due.same("behind it", "10 40!30!20 50|", Due.formatted(x));
        Due.same("straighten(1) again", 2, x.straighten(1));
        Due.same("each is recorded", 4, x.undoCount());
        x.slip(0, 2);
        x.days(3);
        refused(x, "straighten of one with a reader", -2, () -> x.straighten(2));
        Due.same("the order is that of the row", 2, x.straighten(3));
        Due.same("behind it", "30!20 40 50|", Due.formatted(x));
        x.giveBack(2);
        refused(x, "straighten of one on the trolley", -2, () -> x.straighten(2));
        String state = Due.brief(x);
        Due.noSuch("straighten(5)", () -> x.straighten(5));
        Due.noSuch("straighten(-1)", () -> x.straighten(-1));
        unchanged(x, state, "8 2 0", 8);
        Due.same("account(9) counts no straightening", 0, x.account(9));
    }

    private static void check() {
        SlipArchive x = Due.made("archive 9 1 1 1;folder 30;folder 20;folder 40;folder 10;");
        Due.same("check(1)", 1, x.check(1));
        Due.same("behind it", "20 30 40!10|", Due.formatted(x));
        Due.same("check(2)", 2, x.check(2));
        Due.same("behind it", "20!10 30 40|", Due.formatted(x));
        Due.same("check(99)", 1, x.check(99));
        Due.same("behind it", "10 20 30 40|", Due.formatted(x));
        Due.same("check(1) of a row in order", 0, x.check(1));
        Due.same("it is recorded", 4, x.undoCount());
        Due.same("account(9)", 4, x.account(9));
        Due.same("account(0)", 4, x.account(0));
        String state = Due.brief(x);
        Due.illegal("check(0)", () -> x.check(0));
        Due.illegal("check(100)", () -> x.check(100));
        unchanged(x, state, "4 0 0", 4);
        StringBuilder text = new StringBuilder("archive 1 1 1 1;");
        for (int mark = 24; mark > 0; mark--) {
            text.append("folder ").append(mark).append(';');
        }
        SlipArchive y = Due.made(text.toString());
        Due.same("276 wrong pairs", 276, y.swapsLeft());
        Due.same("check(99) of many", 99, y.check(99));
        Due.same("177 are left", 177, y.swapsLeft());
    }

    private static void setEmbargo() {
        SlipArchive x = new SlipArchive();
        Due.same("setEmbargo(2, 0)", 4, x.setEmbargo(2, 0));
        Due.same("it is open", 0, x.folder(2, 6));
        Due.same("setEmbargo(2, 999)", 0, x.setEmbargo(2, 999));
        Due.same("it is closed", 1, x.folder(2, 6));
        Due.same("setEmbargo(2, 999) again", 999, x.setEmbargo(2, 999));
        x.days(5);
        x.setEmbargo(2, 6);
        Due.same("closed on day 5", 1, x.folder(2, 6));
        x.setEmbargo(2, 5);
        Due.same("open on day 5", 0, x.folder(2, 6));
        String state = Due.brief(x);
        Due.noSuch("setEmbargo(5, 0)", () -> x.setEmbargo(5, 0));
        Due.noSuch("setEmbargo(-1, 1000)", () -> x.setEmbargo(-1, 1000));
        Due.illegal("setEmbargo(0, 1000)", () -> x.setEmbargo(0, 1000));
        Due.illegal("setEmbargo(0, -1)", () -> x.setEmbargo(0, -1));
        unchanged(x, state, "6 0 0", 6);
    }
}
