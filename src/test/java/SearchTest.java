/** Promises 13 to 21: searches. */
final class SearchTest {
    public static void main(String[] args) {
        halving();
        wildMarks();
        emptyRow();
        missed();
        order();
        misplaced();
        asked();
        Due.end();
    }

    private static void search(SlipArchive x, int mark, int found, int refile, int... looked) {
        // each call searches by itself, whatever was looked for ahead of it
        Due.same("looks(" + mark + ")", looked.length, x.looks(mark));
        x.missed();
        for (int look = 0; look < looked.length; look++) {
            x.found(4321);
            Due.same("lookedAt(" + mark + ", " + look + ")", looked[look], x.lookedAt(mark, look));
        }
        x.found(Integer.MAX_VALUE);
        Due.same("refilePlace(" + mark + ")", refile, x.refilePlace(mark));
        Due.same("found(" + mark + ")", found, x.found(mark));
        x.found(4321);
        Due.same("looks(" + mark + ")", looked.length, x.looks(mark));
        Due.same("lookedAt(" + mark + ") behind the last", -1, x.lookedAt(mark, looked.length));
        Due.same("lookedAt(" + mark + ", -1)", -1, x.lookedAt(mark, -1));
    }

    private static void halving() {
        SlipArchive x = Due.made("archive 1 1 1 1;folder 10;folder 20;folder 30;folder 40;folder 50;folder 60;");
        search(x, 30, 2, 2, 2);
        search(x, 10, 0, 0, 2, 0);
        search(x, 20, 1, 1, 2, 0, 1);
        search(x, 50, 4, 4, 2, 4);
        search(x, 40, 3, 3, 2, 4, 3);
        search(x, 60, 5, 5, 2, 4, 5);
        search(x, 5, -1, 0, 2, 0);
        search(x, 15, -1, 1, 2, 0, 1);
        search(x, 25, -1, 2, 2, 0, 1);
        search(x, 35, -1, 3, 2, 4, 3);
        search(x, 45, -1, 4, 2, 4, 3);
        search(x, 55, -1, 5, 2, 4, 5);
        search(x, 65, -1, 6, 2, 4, 5);

        // folders tell other numbers than places, and the row is out of order
        SlipArchive y = Due.made("archive 1 1 1 1;folder 50;folder 10;folder 40;folder 20;folder 30;");
        y.misfile(0, 4);
        search(y, 50, 4, 4, 3, 4, 0);
        y.misfile(3, 4);
        Due.same("the row", "10 40!30 50!20|", Due.formatted(y));
        search(y, 20, -1, 1, 4, 1, 2);
        search(y, 40, -1, 3, 4, 0);
        search(y, 30, 2, 2, 4);
    }

    private static void wildMarks() {
        SlipArchive x = new SlipArchive();
        search(x, Integer.MIN_VALUE, -1, 0, 2, 0);
        search(x, Integer.MAX_VALUE, -1, 5, 2, 3, 4);
        search(x, -1, -1, 0, 2, 0);
        Due.same("lookedAt far behind", -1, x.lookedAt(10, Integer.MAX_VALUE));
        Due.same("lookedAt far ahead", -1, x.lookedAt(10, Integer.MIN_VALUE));
    }

    private static void emptyRow() {
        SlipArchive x = Due.made("archive 3 1 1 1;folder 7;");
        search(x, 7, 0, 0, 0);
        x.slip(0, 0);
        x.days(1);
        search(x, 7, -1, 0);
        Due.same("missed() of an empty row", 0, x.missed());
        Due.same("inversions() of an empty row", 0, x.inversions());
        Due.same("longestOrdered() of an empty row", 0, x.longestOrdered());
        Due.same("mostMisplaced() of an empty row", -1, x.mostMisplaced());
        Due.same("mostAsked() of an empty row", -1, x.mostAsked());
    }

    private static void row(String marks, int missed, int wrong, int inversions, int longest, int misplaced) {
        StringBuilder text = new StringBuilder("archive 1 1 1 1;");
        for (String mark : marks.split(" ")) {
            text.append("folder ").append(mark).append(';');
        }
        SlipArchive x = Due.made(text.toString());
        Due.same("missed() of " + marks, missed, x.missed());
        Due.same("size(10) of " + marks, wrong, x.size(10));
        Due.same("inversions() of " + marks, inversions, x.inversions());
        Due.same("swapsLeft() of " + marks, inversions, x.swapsLeft());
        Due.same("longestOrdered() of " + marks, longest, x.longestOrdered());
        Due.same("mostMisplaced() of " + marks, misplaced, x.mostMisplaced());
    }

    private static void missed() {
        SlipArchive x = new SlipArchive();
        Due.same("missed()", 1, x.missed());
        x.misfile(0, 4);
        // 50 is looked at first: 40 is behind it, and 10, too
        Due.same("missed() of 20 30 50 40 10", 2, x.missed());
        x.slip(0, 0);
        x.days(3);
        Due.same("only folders in the row are missed", 1, x.missed());
    }

    private static void order() {
        row("1", 0, 0, 0, 1, -1);
        row("1 2", 0, 0, 0, 2, -1);
        row("2 1", 1, 1, 1, 1, 0);
        row("1 2 3 4 5", 0, 0, 0, 5, -1);
        row("5 4 3 2 1", 4, 4, 10, 1, 0);
        row("50 10 20 30 40", 2, 1, 4, 4, 0);
        row("10 50 20 40 30", 2, 2, 4, 3, 1);
        row("20 10 40 30", 2, 2, 2, 2, 0);
    }

    private static void misplaced() {
        // of several that are equally far the smallest number, wherever it stands
        SlipArchive x = Due.made("archive 1 1 1 1;folder 30;folder 20;folder 10;");
        Due.same("30 20 10", 0, x.mostMisplaced());
        x.misfile(0, 2);
        Due.same("20 10 30", 1, x.mostMisplaced());
        x.misfile(2, 0);
        Due.same("10 20 30", -1, x.mostMisplaced());
        x.misfile(2, 2);
        Due.same("20 30 10", 2, x.mostMisplaced());
        x.misfile(2, 0);
        x.misfile(0, 0);
        Due.same("30 10 20", 0, x.mostMisplaced());
        SlipArchive y = Due.made("archive 1 1 1 1;folder 3;folder 1;folder 2;folder 4;");
        y.misfile(3, 0);
        y.misfile(1, 3);
        Due.same("4 3 2 1", 1, y.mostMisplaced());
        // a nearer one is not told for its smaller number
        SlipArchive near = Due.made("archive 1 1 1 1;folder 1;folder 2;folder 3;folder 4;");
        near.misfile(3, 0);
        Due.same("4 1 2 3", 3, near.mostMisplaced());
        Due.same("longestOrdered() of 4 1 2 3", 3, near.longestOrdered());
        near.misfile(0, 3);
        Due.same("longestOrdered() of 4 2 3 1", 2, near.longestOrdered());
        near.check(99);
        Due.same("longestOrdered() of 1 2 3 4", 4, near.longestOrdered());
        // the order is that of the folders in the row alone
        SlipArchive z = Due.made("archive 9 1 1 1;folder 9;folder 1;folder 2;folder 3;");
        Due.same("9 1 2 3", 0, z.mostMisplaced());
        z.slip(0, 0);
        z.days(1);
        z.days(1);
        z.days(1);
        Due.same("1 2 3, 9 is out", -1, z.mostMisplaced());
        Due.same("inversions() of 1 2 3", 0, z.inversions());
    }

    private static void asked() {
        SlipArchive x = new SlipArchive();
        Due.same("none is asked for", -1, x.mostAsked());
        x.slip(0, 4);
        Due.same("one is asked for", 4, x.mostAsked());
        x.slip(0, 2);
        Due.same("two are asked for: the smallest number", 2, x.mostAsked());
        x.slip(1, 4);
        Due.same("two slips wait for 4", 4, x.mostAsked());
        x.slip(1, 2);
        Due.same("two slips for both: the smallest number", 2, x.mostAsked());
        x.slip(0, 0);
        Due.same("one slip for 0", 2, x.mostAsked());
        x.slip(1, 0);
        Due.same("two slips for three: the smallest number", 0, x.mostAsked());
    }
}
