/** Promises 31 and 32: measures. */
final class MeasureTest {
    public static void main(String[] args) {
        SlipArchive x = new SlipArchive();
        Due.same("foundShare()", 4.0f / 5.0f, x.foundShare());
        Due.same("meanWait() of none", 0.0, x.meanWait());
        x.slip(0, 4);
        x.slip(1, 0);
        x.slip(1, 1);
        x.days(1);
        Due.same("foundShare() of four", 3.0f / 4.0f, x.foundShare());
        Due.same("meanWait() of one", 1.0, x.meanWait());
        x.days(2);
        Due.same("meanWait() of three", 6.0 / 3.0, x.meanWait());
        Due.same("account(10)", 6, x.account(10));
        x.slip(1, 3);
        x.undo();
        x.giveBack(0);
        x.slip(0, 3);
        x.days(1);
        Due.same("meanWait() of four", 7.0 / 4.0, x.meanWait());
        x.undo();
        Due.same("meanWait() behind undo", 2.0, x.meanWait());

        SlipArchive third = Due.made("archive 9 1 1 1;folder 3;folder 1;folder 2;");
        Due.same("foundShare() of two thirds", 2.0f / 3.0f, third.foundShare());
        SlipArchive one = Due.made("archive 9 1 1 1;folder 3;");
        one.slip(0, 0);
        one.days(1);
        Due.same("foundShare() of an empty row", 0.0f, one.foundShare());
        SlipArchive thirds = Due.made("archive 9 1 3 1;folder 1;folder 2;folder 3;");
        thirds.slip(0, 1);
        thirds.slip(1, 0);
        thirds.slip(2, 2);
        thirds.dropSlip(2);
        thirds.days(1);
        thirds.slip(2, 2);
        thirds.days(2);
        Due.same("meanWait() of thirds", 5.0 / 3.0, thirds.meanWait());
        Due.end();
    }
}
