/** Promises 5 to 12: what there is. */
final class StockTest {
    public static void main(String[] args) {
        sizes();
        accounts();
        folders();
        places();
        readers();
        waiting();
        gap();
        Due.end();
    }

    private static void sizes() {
        SlipArchive x = new SlipArchive();
        sizes(x, "new", 0, 3, 2, 2, 2, 5, 5, 0, 0, 0, 1, 3);
        x.slip(0, 0);
        x.slip(1, 1);
        x.slip(1, 0);
        x.days(1);
        sizes(x, "day 1", 1, 3, 2, 2, 2, 5, 3, 2, 0, 1, 1, 2);
        x.giveBack(1);
        sizes(x, "behind giveBack", 1, 3, 2, 2, 2, 5, 3, 1, 1, 1, 1, 2);
        x.days(1);
        sizes(x, "day 2", 2, 3, 2, 2, 2, 5, 3, 1, 1, 1, 1, 1);
        x.days(1);
        sizes(x, "a refiling day", 3, 3, 2, 2, 2, 5, 4, 1, 0, 1, 1, 3);
        SlipArchive y = Due.made("archive 14 6 8 5;folder 9;folder 8;folder 7;folder 6;");
        sizes(y, "another", 0, 14, 6, 8, 5, 4, 4, 0, 0, 0, 3, 14);
        SlipArchive daily = Due.made("archive 1 1 1 1;folder 9;");
        Due.same("each day is a refiling day", 1, daily.size(11));
        Due.illegal("size(-1)", () -> x.size(-1));
        Due.illegal("size(12)", () -> x.size(12));
        Due.illegal("size(min)", () -> x.size(Integer.MIN_VALUE));
    }

    private static void sizes(SlipArchive x, String when, int... want) {
        for (int what = 0; what < want.length; what++) {
            Due.same(when + ": size(" + what + ")", want[what], x.size(what));
        }
    }

    private static void accounts(SlipArchive x, String when, int... want) {
        for (int what = 0; what < want.length; what++) {
            Due.same(when + ": account(" + what + ")", want[what], x.account(what));
        }
    }

    private static void accounts() {
        SlipArchive x = new SlipArchive();
        x.slip(0, 4);
        x.slip(1, 0);
        x.slip(0, 4);
        x.slip(0, 2);
        x.undo();
        accounts(x, "slips", 3, 1, 1, 2, 0, 0, 0, 0, 0, 0, 0);
        x.days(1);
        // 40 is missed behind 2 looks, 10 is found with the second
        accounts(x, "day 1", 4, 1, 1, 2, 1, 1, 0, 4, 0, 0, 1);
        x.days(2);
        // 20 30 50 40: missed behind 30 and 50 were looked at; then found in the whole row
        accounts(x, "day 3", 5, 1, 1, 2, 2, 2, 1, 6, 0, 0, 4);
        x.giveBack(4);
        x.misfile(3, 0);
        x.check(2);
        accounts(x, "check", 8, 1, 1, 2, 2, 2, 1, 6, 0, 2, 4);
        x.days(3);
        // 20 30 50: 40 is refiled behind 30 and 50 were looked at
        accounts(x, "day 6", 9, 1, 1, 2, 2, 2, 1, 8, 1, 2, 4);
        Due.same("refiled in order", "20 30 40 50|", Due.formatted(x));
        Due.illegal("account(-1)", () -> x.account(-1));
        Due.illegal("account(11)", () -> x.account(11));
        Due.noSuch("a slip of no reader", () -> x.slip(2, 0));
        Due.illegal("no days", () -> x.days(0));
        accounts(x, "behind exceptions", 9, 1, 1, 2, 2, 2, 1, 8, 1, 2, 4);
    }

    private static void folder(SlipArchive x, int folder, int... want) {
        for (int what = 0; what < want.length; what++) {
            Due.same("folder(" + folder + ", " + what + ")", want[what], x.folder(folder, what));
        }
    }

    private static void folders() {
        SlipArchive x = new SlipArchive();
        folder(x, 2, 30, 4, 0, 2, 0, 0, 1);
        folder(x, 4, 40, 0, 0, 4, 0, 0, 0);
        x.slip(1, 0);
        x.slip(1, 1);
        x.slip(0, 0);
        x.slip(0, 2);
        x.slip(1, 2);
        x.days(1);
        folder(x, 0, 10, 0, 1, 1, 1, 1, 0);
        folder(x, 1, 20, 0, 1, 1, 0, 1, 0);
        folder(x, 2, 30, 4, 0, 0, 2, 0, 1);
        folder(x, 3, 50, 0, 0, 1, 0, 0, 0);
        x.giveBack(1);
        x.giveBack(0);
        folder(x, 1, 20, 0, 2, 0, 0, 1, 0);
        folder(x, 0, 10, 0, 2, 1, 1, 1, 0);
        x.days(2);
        folder(x, 0, 10, 0, 1, 0, 0, 2, 0);
        folder(x, 1, 20, 0, 0, 0, 0, 1, 0);
        folder(x, 2, 30, 4, 0, 1, 2, 0, 1);
        x.days(1);
        folder(x, 2, 30, 4, 1, 0, 1, 1, 0);
        Due.noSuch("folder(-1, 0)", () -> x.folder(-1, 0));
        Due.noSuch("folder(5, 0)", () -> x.folder(5, 0));
        Due.noSuch("folder(24, 0)", () -> x.folder(24, 0));
        Due.noSuch("folder(5, 7)", () -> x.folder(5, 7));
        Due.illegal("folder(4, 7)", () -> x.folder(4, 7));
        Due.illegal("folder(0, -1)", () -> x.folder(0, -1));
    }

    private static void places() {
        SlipArchive x = new SlipArchive();
        Due.same("marked(50)", 3, x.marked(50));
        Due.same("marked(51)", -1, x.marked(51));
        Due.same("marked(-1)", -1, x.marked(-1));
        Due.same("marked(0)", -1, x.marked(0));
        Due.same("at(0)", 0, x.at(0));
        Due.same("at(4)", 4, x.at(4));
        Due.same("at(5)", -1, x.at(5));
        Due.same("at(-1)", -1, x.at(-1));
        x.slip(0, 0);
        x.days(1);
        Due.same("at(0) behind a day", 1, x.at(0));
        Due.same("at(4) behind a day", -1, x.at(4));
        Due.same("marked(10) that is out", 0, x.marked(10));
    }

    private static void readers() {
        SlipArchive x = new SlipArchive();
        x.slip(1, 0);
        x.slip(1, 1);
        x.slip(1, 3);
        x.slip(0, 1);
        Due.same("reader(1, 0)", 0, x.reader(1, 0));
        Due.same("reader(1, 1)", 3, x.reader(1, 1));
        Due.same("reader(0, 1)", 1, x.reader(0, 1));
        Due.same("reader(1, 2)", 0, x.reader(1, 2));
        x.days(1);
        Due.same("reader(1, 0) behind a day", 2, x.reader(1, 0));
        Due.same("reader(1, 1) behind a day", 1, x.reader(1, 1));
        x.giveBack(0);
        Due.same("reader(1, 0) behind giveBack", 1, x.reader(1, 0));
        Due.same("reader(1, 2) behind giveBack", 2, x.reader(1, 2));
        x.days(2);
        Due.same("reader(1, 2) later", 3, x.reader(1, 2));
        Due.noSuch("reader(2, 0)", () -> x.reader(2, 0));
        Due.noSuch("reader(-1, 3)", () -> x.reader(-1, 3));
        Due.noSuch("reader(8, 3)", () -> x.reader(8, 3));
        Due.illegal("reader(1, 3)", () -> x.reader(1, 3));
        Due.illegal("reader(0, -1)", () -> x.reader(0, -1));
    }

    private static void slip(SlipArchive x, int place, int... want) {
        for (int what = 0; what < want.length; what++) {
            Due.same("waiting(" + place + ", " + what + ")", want[what], x.waiting(place, what));
        }
    }

    private static void waiting() {
        SlipArchive x = new SlipArchive();
        x.slip(1, 4);
        x.slip(0, 2);
        slip(x, 0, 1, 4, 0, 0, 0);
        slip(x, 1, 0, 2, 0, 0, 3);
        slip(x, 2, -1, -1, -1, -1, -1);
        slip(x, -1, -1, -1, -1, -1, -1);
        x.days(1);
        x.slip(0, 0);
        slip(x, 0, 1, 4, 0, 1, 0);
        slip(x, 2, 0, 0, 1, 0, 0);
        x.days(1);
        slip(x, 0, 1, 4, 0, 2, 0);
        x.slip(1, 0);
        slip(x, 2, 1, 0, 2, 0, 1);
        x.giveBack(0);
        slip(x, 2, 1, 0, 2, 0, 2);
        x.setEmbargo(0, 500);
        slip(x, 2, 1, 0, 2, 0, 2);
        Due.illegal("waiting(0, 5)", () -> x.waiting(0, 5));
        Due.illegal("waiting(0, -1)", () -> x.waiting(0, -1));
        Due.illegal("waiting(77, 5)", () -> x.waiting(77, 5));

        // of several reasons the first one is told
        SlipArchive y = Due.made("archive 2 6 2 1;folder 1;folder 2;folder 3;");
        y.slip(0, 0);
        y.days(1);
        y.slip(0, 1);
        slip(y, 0, 0, 1, 1, 0, 4);
        y.setEmbargo(1, 3);
        slip(y, 0, 0, 1, 1, 0, 3);
        y.setEmbargo(1, 1);
        slip(y, 0, 0, 1, 1, 0, 4);
        y.slip(1, 0);
        y.setEmbargo(0, 9);
        slip(y, 1, 1, 0, 1, 0, 1);
        y.giveBack(0);
        slip(y, 1, 1, 0, 1, 0, 2);
        y.days(1);
        slip(y, 0, 1, 0, 1, 0, 3);
    }

    private static void gap() {
        SlipArchive x = new SlipArchive();
        Due.same("gap()", 0, x.gap());
        x.slip(0, 0);
        x.slip(0, 1);
        x.slip(0, 3);
        x.days(4);
        x.giveBack(1);
        x.slip(1, 0);
        Due.same("gap() later", 0, x.gap());
        x.days(5);
        Due.same("gap() later still", 0, x.gap());
    }
}
