/** Promise 41: scripts. */
final class ScriptTest {
    public static void main(String[] args) {
        orders();
        refusals();
        scriptErrors();
        errorsChangeNothing();
        oneOperation();
        lengths();
        Due.end();
    }

    private static void orders() {
        SlipArchive x = new SlipArchive();
        SlipArchive y = new SlipArchive();
        Due.same("each order", 9, Due.play(x, "slip 0 40;slip 1 20;slip 0 30;drop 2;day 3;return 20;misfile 10 2;check 1;"
            + "until 50 7;"));
        y.slip(0, 4);
        y.slip(1, 1);
        y.slip(0, 2);
        y.dropSlip(2);
        y.days(3);
        y.giveBack(1);
        y.misfile(0, 2);
        y.check(1);
        y.setEmbargo(3, 7);
        Due.same("orders are the operations", Due.state(y), Due.state(x));
        Due.same("accounts", "9 0 0", Due.lasting(x));
        Due.same("the row", "30!10 50|20", Due.formatted(x));
        Due.same("an empty script", 0, Due.play(x, " \n"));
        Due.same("accounts behind an empty script", "9 0 0", Due.lasting(x));
        Due.same("an empty script is recorded", 2, x.undoCount());
        Due.same("blanks and leading zeros", 2, Due.play(x, "check\n0099 ;slip001 0010;"));
    }

    private static void refused(String script, int done, String why) {
        SlipArchive x = new SlipArchive();
        x.slip(0, 3);
        x.days(1);
        Due.same("play \"" + script + "\" (" + why + ")", done, Due.play(x, script));
        Due.same("error position behind " + script, -1, x.errorPosition());
        Due.same("accounts behind " + script, 2 + done + " 1 0", Due.lasting(x));
        Due.same("undoCount behind " + script, 3, x.undoCount());
    }

    private static void refusals() {
        refused("slip 2 10;day 1;", 0, "no such reader");
        refused("slip 7 10;", 0, "no such reader");
        refused("check 1;slip 0 11;check 1;", 1, "no such MARK");
        refused("slip 2 11;", 0, "neither");
        refused("slip 0 50;", 0, "the reader has it");
        refused("slip 1 50;slip 1 50;slip 1 20;", 1, "a slip waits");
        refused("drop 0;", 0, "no such place");
        refused("slip 0 10;drop 1;", 1, "no such place");
        refused("return 10;", 0, "it is with none");
        refused("return 11;", 0, "no such MARK");
        refused("return 50;return 50;", 1, "it is on the trolley");
        refused("misfile 50 0;", 0, "it is not in the row");
        refused("misfile 10 3;misfile 10 4;", 1, "no such place");
        refused("misfile 9999 0;", 0, "no such MARK");
        refused("until 5 5;", 0, "no such MARK");
        StringBuilder days = new StringBuilder();
        for (int i = 0; i < 17; i++) {
            days.append("day 60;");
        }
        refused(days.toString(), 16, "DAY would be above 999");

        SlipArchive full = Due.made("archive 1 1 8 1;folder 1;folder 2;folder 3;");
        StringBuilder slips = new StringBuilder();
        for (int i = 0; i < 17; i++) {
            slips.append("slip ").append(i / 3).append(' ').append(i % 3 + 1).append(';');
        }
        Due.same("17 slips", 16, Due.play(full, slips.toString()));
        Due.same("accounts behind 17 slips", "16 1 0", Due.lasting(full));
    }

    private static void error(String script, int code, int position) {
        SlipArchive x = new SlipArchive();
        String state = Due.state(x);
        Due.same("play \"" + script + "\"", -10 - code, Due.play(x, script));
        Due.same("error position of \"" + script + "\"", position, x.errorPosition());
        Due.same("state behind \"" + script + "\"", state, Due.state(x));
        Due.same("accounts behind \"" + script + "\"", "0 0 0", Due.lasting(x));
        Due.same("undoCount behind \"" + script + "\"", 0, x.undoCount());
        Due.same("the buffer behind \"" + script + "\"", 20, x.feed(0, 0, 0, 0, 0));
    }

    private static void scriptErrors() {
        error(";", 1, 0);
        error("day", 1, 3);
        error("day 1", 1, 5);
        error("day 1 ", 1, 6);
        error("day 1 1;", 1, 6);
        error("day;", 1, 3);
        error("day ?", 1, 4);
        error("days 1;", 1, 0);
        error("Day 1;", 1, 0);
        error("bay 1;", 1, 0);
        error("dayz 1;", 1, 0);
        error("day 1;zday 1;", 1, 6);
        error("return`10;", 1, 6);
        error("day 1{", 1, 5);
        error("day /1;", 1, 4);
        error("day :1;", 1, 4);
        error("straighten 10;", 1, 0);
        error("folder 1;", 1, 0);
        error("1;", 1, 0);
        error("slip 0;", 1, 6);
        error("slip slip;", 1, 5);
        error("misfile 10;", 1, 10);
        error("until 10;", 1, 8);
        error("day 1;check 1;?", 1, 14);
        error("slip 8 10;", 2, 5);
        error("slip 0 10000;", 2, 7);
        error("drop 16;", 2, 5);
        error("return 10000;", 2, 7);
        error("day 0;", 2, 4);
        error("day 61;", 2, 4);
        error("misfile 10000 0;", 2, 8);
        error("misfile 0 24;", 2, 10);
        error("check 0;", 2, 6);
        error("check 100;", 2, 6);
        error("until 10000 0;", 2, 6);
        error("until 0 1000;", 2, 8);
        error("until 0 99999999999999999999;", 2, 8);
        error("day 1;day 4294967297;", 2, 10);
        error("day 1;".repeat(21), 4, 120);
        error("day 1;".repeat(20) + "slip", 4, 120);
        error("day 1;".repeat(20) + "drop", 4, 120);
        error("day 1;".repeat(20) + "return", 4, 120);
        error("day 1;".repeat(20) + "misfile", 4, 120);
        error("day 1;".repeat(20) + "check", 4, 120);
        error("day 1;".repeat(20) + "until", 4, 120);
        error("day 1;".repeat(20) + "folder", 1, 120);
        error("day 1;".repeat(20) + "1", 1, 120);
        error("day 1;".repeat(20) + "\n!", 1, 121);
        SlipArchive x = new SlipArchive();
        Due.same("greatest numbers", 1, Due.play(x, "until 10 999;slip 7 9999;drop 15;misfile 9999 23;return 9999;"));
        Due.same("20 orders", 20, Due.play(x, "day 1;".repeat(20) + "\n"));
        Due.same("greatest numbers of days and checks", 2, Due.play(x, "day 60;check 99;"));
        Due.same("smallest numbers", 1, Due.play(x, "until 10 0;slip 0 0;misfile 0 0;return 0;drop 0;until 0 0;"));
        Due.same("a second script", 3, Due.play(x, "until 10 77;misfile 10 3;misfile 20 1;"));
        Due.same("its second numbers", "30!20 40!10 50|", Due.formatted(x));
        Due.same("its EMBARGO", 77, x.folder(0, 1));
    }

    private static void errorsChangeNothing() {
        SlipArchive x = new SlipArchive();
        x.slip(0, 0);
        x.saveSnapshot();
        x.slip(0, 0);
        String state = Due.state(x);
        Due.same("orders ahead of an error", -11, Due.play(x, "day 1;slip 1 10;day"));
        Due.same("state behind it", state, Due.state(x));
        Due.same("accounts behind it", "1 1 0", Due.lasting(x));
        Due.same("undo behind it", 0, x.undo());
        Due.yes("the snapshot is there", x.restoreSnapshot());
    }

    private static void oneOperation() {
        SlipArchive x = new SlipArchive();
        x.slip(0, 3);
        String state = Due.state(x);
        Due.same("play", 3, Due.play(x, "day 1;slip 1 10;day 2;slip 5 1;"));
        Due.same("undoCount", 2, x.undoCount());
        Due.same("undo", 1, x.undo());
        Due.same("state behind undo", state, Due.state(x));
        Due.same("accounts behind undo", "4 1 1", Due.lasting(x));
        for (int i = 1; i <= 9; i++) {
            Due.play(x, "day 1;day 1;");
        }
        Due.same("undoCount is 8 at most", 8, x.undoCount());
        for (int i = 7; i >= 0; i--) {
            Due.same("undo", i, x.undo());
        }
        Due.same("no more", -1, x.undo());
        Due.same("DAY", 2, x.size(0));
    }

    private static void lengths() {
        SlipArchive x = new SlipArchive();
        Due.feed(x, "day 1;day 2;day 99;");
        Due.illegal("play(-1)", () -> x.play(-1));
        Due.illegal("play(21)", () -> x.play(21));
        Due.illegal("play(min)", () -> x.play(Integer.MIN_VALUE));
        Due.same("nothing changed", "0 0 0", Due.lasting(x));
        Due.same("the first bytes", 2, x.play(12));
        Due.same("DAY", 3, x.size(0));
        Due.illegal("the buffer is empty", () -> x.play(1));
    }
}
