/** Promises 1 to 4: a new object, the buffer, texts and their errors. */
final class TextTest {
    private static final String HEAD = "archive 3 2 2 2;";

    public static void main(String[] args) {
        newObject();
        buffer();
        texts();
        textErrors();
        errorsChangeNothing();
        loadReplaces();
        loadAgain();
        cutTokens();
        errorPositions();
        Due.end();
    }

    /** A token ends where the text ends, though the buffer goes on. */
    private static void cutTokens() {
        SlipArchive x = new SlipArchive();
        Due.feed(x, "archives 1");
        Due.same("a cut word", -11, x.load(7));
        Due.same("position behind a cut word", 7, x.errorPosition());
        Due.feed(x, "archive 144 1 1 1;");
        Due.same("a cut number", -11, x.load(10));
        Due.same("position behind a cut number", 10, x.errorPosition());
    }

    private static void newObject() {
        SlipArchive x = new SlipArchive();
        SlipArchive same = Due.made("archive 3 2 2 2;folder 10;folder 20;folder 30 until 4;folder 50;folder 40;");
        Due.same("state of a new object", Due.state(same), Due.state(x));
        Due.same("row of a new object", "10 20 30 50!40|", Due.formatted(x));
        for (int what = 0; what <= 10; what++) {
            Due.same("account " + what + " of a new object", 0, x.account(what));
        }
        Due.same("undoCount of a new object", 0, x.undoCount());
        Due.illegal("load of the empty buffer", () -> x.load(1));
        Due.same("NONE", -1, SlipArchive.NONE);
    }

    private static void buffer() {
        SlipArchive x = new SlipArchive();
        for (int calls = 1; calls <= 35; calls++) {
            Due.same("feed " + calls, 20 * calls, x.feed(0, 0, 0, 0, 0));
        }
        Due.same("feed above 700", -1, x.feed(0, 0, 0, 0, 0));
        Due.illegal("load(701)", () -> x.load(701));
        Due.same("load of 700 bytes", -11, x.load(700));
        Due.same("feed behind a load", 20, x.feed(1, 2, 3, 4, 5));

        // the most significant byte first; bytes above 127 are bytes, too
        SlipArchive y = new SlipArchive();
        y.feed(0x61726368, 0x69766520, 0x31203120, 0x31203120, 0x3b20ff0a);
        Due.same("load with a byte 255", -11, y.load(20));
        Due.same("position of the byte 255", 18, y.errorPosition());
    }

    private static void texts() {
        Due.same("blanks and line ends", "7|", Due.formatted(Due.made("\n archive\n14 6 8 5 ; folder\n7 ;\n")));
        Due.same("no blanks", "7 8|", Due.formatted(Due.made("archive1 1 1 1;folder7until0;folder8;")));
        SlipArchive zeros = Due.made("archive 00000000000003 0000002 02 2;folder 00000000000000000000012 until 0099;");
        Due.same("leading zeros: MARK", 12, zeros.folder(0, 0));
        Due.same("leading zeros: EMBARGO", 99, zeros.folder(0, 1));
        SlipArchive most = Due.made("archive 14 6 8 5;folder 9999 until 999;folder 0;");
        Due.same("greatest PERIOD", 14, most.size(1));
        Due.same("greatest HANDS", 6, most.size(2));
        Due.same("greatest READERS", 8, most.size(3));
        Due.same("greatest LIMIT", 5, most.size(4));
        Due.same("greatest MARK", 9999, most.folder(0, 0));
        Due.same("greatest EMBARGO", 999, most.folder(0, 1));
        Due.same("smallest MARK", 0, most.folder(1, 0));
        Due.same("EMBARGO not told", 0, most.folder(1, 1));
        Due.same("24 folders", 24, Due.load(new SlipArchive(), HEAD + folders(24)));
        SlipArchive behind = new SlipArchive();
        Due.feed(behind, "archive 1 1 1 1;folder 5;?!");
        Due.same("bytes behind the length", 1, behind.load(25));
        Due.same("error position of a good text", -1, behind.errorPosition());
    }

    private static String folders(int many) {
        StringBuilder text = new StringBuilder();
        for (int i = 0; i < many; i++) {
            text.append("folder ").append(i).append(';');
        }
        return text.toString();
    }

    private static void error(String text, int code, int position) {
        SlipArchive x = new SlipArchive();
        Due.same("load \"" + text + "\"", -10 - code, Due.load(x, text));
        Due.same("error position of \"" + text + "\"", position, x.errorPosition());
    }

    private static void textErrors() {
        error("", 1, 0);
        error("  ", 1, 2);
        error("Archive", 1, 0);
        error(" archives 1", 1, 1);
        error("archiv 1", 1, 0);
        error("archive", 1, 7);
        error("brchive 1", 1, 0);
        error("archivez 1", 1, 0);
        error("archive;", 1, 7);
        error("archive 3 2 2;", 1, 13);
        error("archive 3 2 2 2 2;", 1, 16);
        error(HEAD, 1, 16);
        error(HEAD + "\n", 1, 17);
        error(HEAD + ";", 1, 16);
        error(HEAD + "folders 1;", 1, 16);
        error(HEAD + "until 1;", 1, 16);
        error(HEAD + "folder 1", 1, 24);
        error(HEAD + "folder until", 1, 23);
        error(HEAD + "folder 1 until;", 1, 30);
        error(HEAD + "folder 1 until 2", 1, 32);
        error(HEAD + "folder 1 until 2 until 2;", 1, 33);
        error(HEAD + "folder 1 folder 2;", 1, 25);
        error(HEAD + "folder 1; 1", 1, 26);
        error(HEAD + "folder 1; #", 1, 26);
        error(HEAD + "folder -1;", 1, 23);
        error(HEAD + "folder 1\t;", 1, 24);
        error("archive 0 2 2 2;", 2, 8);
        error("archive 15 2 2 2;", 2, 8);
        error("archive 1 0 2 2;", 2, 10);
        error("archive 1 7 2 2;", 2, 10);
        error("archive 1 2 0 2;", 2, 12);
        error("archive 1 2 9 2;", 2, 12);
        error("archive 1 2 2 0;", 2, 14);
        error("archive 1 2 2 6;", 2, 14);
        error(HEAD + "folder 10000;", 2, 23);
        error(HEAD + "folder 1 until 1000;", 2, 31);
        error(HEAD + "folder 4294967296;", 2, 23);
        error(HEAD + "folder 18446744073709551617000000000000000000;", 2, 23);
        error("archive 15 7 9 9?", 2, 8);
        error(HEAD + "folder 7;folder 07;", 3, 32);
        error(HEAD + "folder 7;folder 8;folder 7 until 1000;", 3, 41);
        error(HEAD + "folder 7;folder 10000;folder 7;", 2, 32);
        error(HEAD + folders(24) + "folder", 4, HEAD.length() + folders(24).length());
        error(HEAD + folders(25), 4, HEAD.length() + folders(24).length());
        error(HEAD + folders(24) + "until", 1, HEAD.length() + folders(24).length());
        error(HEAD + folders(24) + "1", 1, HEAD.length() + folders(24).length());
    }

    private static void errorsChangeNothing() {
        SlipArchive x = new SlipArchive();
        x.slip(0, 0);
        x.slip(0, 0);
        x.saveSnapshot();
        x.days(2);
        String state = Due.state(x);
        Due.same("a text with an error", -13, Due.load(x, "archive 1 1 1 1;folder 1;folder 1;"));
        Due.same("state behind an error", state, Due.state(x));
        Due.same("accounts behind an error", "2 1 0", Due.lasting(x));
        Due.same("undoCount behind an error", 2, x.undoCount());
        Due.illegal("the buffer is empty behind an error", () -> x.load(1));
        Due.same("undo behind an error", 1, x.undo());
        Due.yes("the snapshot is there behind an error", x.restoreSnapshot());
    }

    private static void loadReplaces() {
        SlipArchive x = new SlipArchive();
        x.slip(0, 0);
        x.slip(0, 0);
        x.slip(1, 0);
        x.undo();
        x.days(3);
        x.giveBack(0);
        x.saveSnapshot();
        x.format();
        Due.same("load", 2, Due.load(x, "archive 2 1 1 1;folder 3;folder 1 until 2;"));
        Due.same("accounts 0 to 2 behind a load", "4 1 1", Due.lasting(x));
        Due.same("undoCount behind a load", 0, x.undoCount());
        Due.same("undo behind a load", -1, x.undo());
        Due.yes("no snapshot behind a load", !x.restoreSnapshot());
        Due.same("state behind a load", Due.state(Due.made("archive 2 1 1 1;folder 3;folder 1 until 2;")),
            Due.state(x));
        Due.same("row behind a load", "3!1|", Due.formatted(x));
        Due.illegal("the buffer is empty behind a load", () -> x.load(1));
    }

    /** Neither forecasts nor texts with errors leave anything that a text takes over. */
    private static void loadAgain() {
        String text = "archive 5 1 3 1;folder 40;folder 10 until 3;folder 25;";
        SlipArchive x = new SlipArchive();
        x.slip(0, 0);
        x.slip(1, 1);
        x.slip(0, 4);
        x.slip(1, 0);
        x.days(2);
        x.giveBack(0);
        Due.same("TRIES of the slip ahead", 1, x.waiting(0, 3));
        x.servedBy(0);
        Due.same("a text with an error", -11, Due.load(x, "archive 6 6 6 5;folder 40;folder 30;folder"));
        Due.load(x, text);
        Due.same("state behind a load", Due.state(Due.made(text)), Due.state(x));
        Due.same("row behind a load", "40!10 25|", Due.formatted(x));
        x.slip(2, 2);
        x.slip(2, 0);
        Due.same("DAY of a new slip", 0, x.waiting(0, 2));
        Due.same("TRIES of a new slip", 0, x.waiting(0, 3));
        x.days(2);
        x.giveBack(2);
        x.waitingIn(1);
        Due.load(x, text);
        Due.same("state behind a second load", Due.state(Due.made(text)), Due.state(x));
        Due.same("gap() behind a second load", 0, x.gap());
        String orders = "slip 2 25;day 1;slip 1 40;slip 0 10;day 1;slip 0 25;";
        SlipArchive y = Due.made(text);
        Due.same("orders behind a second load", Due.play(y, orders), Due.play(x, orders));
        Due.same("state behind orders", Due.state(y), Due.state(x));
    }

    private static void errorPositions() {
        SlipArchive x = new SlipArchive();
        Due.same("no call of load yet", -1, x.errorPosition());
        Due.load(x, "archive 0");
        Due.same("behind an error", 8, x.errorPosition());
        x.feed(0, 0, 0, 0, 0);
        Due.illegal("load(21) of 20 bytes", () -> x.load(21));
        Due.illegal("load(-1)", () -> x.load(-1));
        Due.illegal("play(21) of 20 bytes", () -> x.play(21));
        Due.same("behind calls that did not read", 8, x.errorPosition());
        Due.same("nothing was taken from the buffer", 40, x.feed(0, 0, 0, 0, 0));
        Due.same("load(0)", -11, x.load(0));
        Due.same("behind load(0)", 0, x.errorPosition());
        Due.same("load(0) empties the buffer", 20, x.feed(0, 0, 0, 0, 0));
        Due.same("play(0)", 0, x.play(0));
        Due.same("behind a play without error", -1, x.errorPosition());
        Due.same("play(0) empties the buffer", 20, x.feed(0, 0, 0, 0, 0));
        x.play(0);
        Due.play(x, "day 1;day 61;");
        Due.same("behind a play with an error", 10, x.errorPosition());
        x.slip(0, 0);
        x.undo();
        x.saveSnapshot();
        x.restoreSnapshot();
        Due.same("undo and snapshot leave it", 10, x.errorPosition());
        Due.load(x, "archive 1 1 1 1;folder 1;");
        Due.same("behind a load without error", -1, x.errorPosition());
    }
}
