/** Objects that tests begin with: the emptiest and the fullest ones, and one in the midst of its work. */
final class Made {
    private Made() {
    }

    /** One folder in the row, as few of everything as there may be. */
    static SlipArchive one() {
        return Due.made("archive 1 1 1 1;folder 7;");
    }

    /** One folder, which its reader has: the row and the trolley are empty. */
    static SlipArchive oneOut() {
        SlipArchive x = Due.made("archive 14 1 1 1;folder 7;");
        Due.play(x, "slip 0 7;day 1;");
        return x;
    }

    private static String folders(int many, int first, int step) {
        StringBuilder text = new StringBuilder();
        for (int i = 0; i < many; i++) {
            text.append("folder ").append(first + i * step).append(';');
        }
        return text.toString();
    }

    /** As many folders as are asked for, with the MARKs 9000, 9001 and so on. */
    static String folders(int many) {
        return folders(many, 9000, 1);
    }

    /** A text with so many of them, and as many of everything else as there may be. */
    static String text(int many) {
        return "archive 14 6 8 5;" + folders(many);
    }

    /** 24 folders in order, as many of everything as there may be. */
    static SlipArchive full() {
        return Due.made(text(24));
    }

    /** 24 folders, each ahead of all that have smaller MARKs: 276 inversions. */
    static SlipArchive reversed() {
        return Due.made("archive 14 6 8 5;" + folders(24, 9999, -1));
    }

    /** DAY 5: readers have all 24 folders, three each. */
    static SlipArchive allOut() {
        SlipArchive x = full();
        Due.play(x, slips(0, 16) + "day 3;");
        Due.play(x, slips(16, 24) + "day 2;");
        return x;
    }

    private static String slips(int from, int to) {
        StringBuilder text = new StringBuilder();
        for (int i = from; i < to; i++) {
            text.append("slip ").append(i / 3).append(' ').append(9000 + i).append(';');
        }
        return text.toString();
    }

    /** DAY 5: all 24 folders are on the trolley, that with the greatest MARK came first. */
    static SlipArchive fullTrolley() {
        SlipArchive x = allOut();
        Due.play(x, returns(23, 10));
        Due.play(x, returns(9, 0));
        return x;
    }

    private static String returns(int from, int to) {
        StringBuilder text = new StringBuilder();
        for (int i = from; i >= to; i--) {
            text.append("return ").append(9000 + i).append(';');
        }
        return text.toString();
    }

    /** 16 slips wait, those of reader 0 for 1 and 2 first, for folders that are closed until DAY 999. */
    static SlipArchive fullSlips() {
        SlipArchive x = Due.made("archive 14 6 8 5;folder 1 until 999;folder 2 until 999;folder 3 until 999;");
        StringBuilder text = new StringBuilder();
        for (int i = 0; i < 16; i++) {
            text.append("slip ").append(i / 2).append(' ').append(i % 2 + 1).append(';');
        }
        Due.play(x, text.toString());
        return x;
    }

    /** An archive whose DAY is as given, 60 at least, 999 at most. */
    static SlipArchive onDay(int day) {
        SlipArchive x = Due.made("archive 14 6 8 5;folder 2;folder 1;folder 3;");
        StringBuilder text = new StringBuilder("day 60;".repeat(day / 60));
        if (day % 60 > 0) {
            text.append("day ").append(day % 60).append(';');
        }
        Due.play(x, text.toString());
        return x;
    }

    /**
     * DAY 1: reader 0 has folder 0, 1 is on the trolley, 50!30 40 (folders 3, 2 and 4) are in the row, 3 slips wait.
     * There are 8 operations to undo, a snapshot, a text of format, an error position and 20 bytes in the buffer.
     */
    static SlipArchive busy() {
        SlipArchive x = new SlipArchive();
        x.slip(0, 0);
        x.slip(1, 1);
        x.saveSnapshot();
        x.days(1);
        x.giveBack(1);
        x.slip(0, 4);
        x.slip(1, 4);
        x.slip(1, 2);
        x.misfile(3, 0);
        x.setEmbargo(3, 5);
        x.format();
        Due.load(x, "archive 0");
        Due.feed(x, "  ?");
        return x;
    }
}
