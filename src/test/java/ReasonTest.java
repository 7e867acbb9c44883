/** Promises 22 to 24: reasons. */
final class ReasonTest {
    public static void main(String[] args) {
        why();
        full();
        waitsFor();
        Due.end();
    }

    private static void reason(SlipArchive x, int reader, int folder, int why, int cause) {
        Due.same("why(" + reader + ", " + folder + ")", why, x.why(reader, folder));
        Due.same("cause(" + reader + ", " + folder + ")", cause, x.cause(reader, folder));
    }

    private static void why() {
        SlipArchive x = new SlipArchive();
        reason(x, 0, 0, 0, -1);
        x.slip(1, 3);
        x.slip(0, 2);
        x.slip(1, 2);
        reason(x, 1, 2, -3, 2);
        reason(x, 0, 2, -3, 1);
        reason(x, 0, 3, 0, -1);
        reason(x, 0, 4, 0, -1);
        x.days(1);
        reason(x, 1, 3, -2, -1);
        reason(x, 0, 3, 0, -1);
        reason(x, 1, 2, -3, 1);
        x.giveBack(3);
        reason(x, 1, 3, 0, -1);
        Due.same("reasons count nothing", "5 0 0", Due.lasting(x));
        Due.noSuch("why(2, 0)", () -> x.why(2, 0));
        Due.noSuch("why(-1, 0)", () -> x.why(-1, 0));
        Due.noSuch("why(0, 5)", () -> x.why(0, 5));
        Due.noSuch("why(0, -1)", () -> x.why(0, -1));
        Due.noSuch("cause(2, 0)", () -> x.cause(2, 0));
        Due.noSuch("cause(-1, 0)", () -> x.cause(-1, 0));
        Due.noSuch("cause(0, 5)", () -> x.cause(0, 5));
        Due.noSuch("cause(0, -1)", () -> x.cause(0, -1));
    }

    private static void full() {
        SlipArchive x = Due.made("archive 1 1 4 1;folder 1;folder 2;folder 3;folder 4;folder 5;folder 6;");
        x.slip(0, 5);
        x.days(4);
        Due.same("the folder went out", 1, x.folder(5, 2));
        for (int i = 0; i < 15; i++) {
            Due.same("slip " + i, i, x.slip(i % 3 + 1, i / 3));
        }
        reason(x, 1, 5, 0, -1);
        Due.same("slip 15", 15, x.slip(1, 5));
        reason(x, 2, 5, -4, -1);
        reason(x, 1, 5, -3, 15);
        reason(x, 0, 5, -2, -1);
        reason(x, 0, 4, -4, -1);
        x.dropSlip(3);
        reason(x, 2, 5, 0, -1);
        reason(x, 1, 5, -3, 14);
    }

    private static void waitsFor() {
        SlipArchive x = Due.made("archive 5 6 3 2;folder 1;folder 2;folder 3;folder 4;folder 5 until 7;");
        x.slip(2, 0);
        x.slip(2, 1);
        x.days(2);
        x.slip(0, 0);
        x.slip(0, 4);
        x.slip(2, 2);
        x.slip(1, 3);
        Due.same("the reader who has it", 2, x.waitsFor(0));
        Due.same("the days until it is open", 5, x.waitsFor(1));
        Due.same("the folders that the reader has", 2, x.waitsFor(2));
        Due.same("it is not idle", -1, x.waitsFor(3));
        Due.same("no such place", -1, x.waitsFor(4));
        Due.same("no such place ahead", -1, x.waitsFor(-1));
        x.giveBack(0);
        Due.same("the days until the next refiling day", 3, x.waitsFor(0));
    }
}
