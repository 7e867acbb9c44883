/** Promises 1 to 4, the text and its grammar: a sentence of the document with each test. */
final class TextSentences {
    private static final String HEAD = "archive 3 2 2 2;";
    private static final String SCRIPT = "slip 1 20;drop 0;return 10;day 2;misfile 20 3;check 9;until 40 5;";

    private TextSentences() {
    }

    static void ask() {
        newObject();
        feed();
        load();
        loadErrors();
        errorPosition();
        signs();
        words();
        numbers();
        grammar();
        cutTexts();
        textRanges();
        scriptRanges();
        codes();
        smallestCodes();
        firstErrors();
    }

    private static void newObject() {
        Sentence.of(1, "Creates an archive as by the text \"archive 3 2 2 2;folder 10;folder 20;folder 30 until 4;folder 50;folder 40;\","
            + " with an empty buffer, all accounts 0.");
        SlipArchive x = new SlipArchive();
        Due.same("its state", Due.state(Due.made("archive 3 2 2 2;folder 10;folder 20;folder 30 until 4;folder 50;folder 40;")),
            Due.state(x));
        int[] marks = {10, 20, 30, 50, 40};
        for (int folder = 0; folder < marks.length; folder++) {
            Due.same("folder(" + folder + ", 0)", marks[folder], x.folder(folder, 0));
            Due.same("at(" + folder + ")", folder, x.at(folder));
            Due.same("folder(" + folder + ", 1)", folder == 2 ? 4 : 0, x.folder(folder, 1));
        }
        for (int what = 0; what <= 10; what++) {
            Due.same("account(" + what + ")", 0, x.account(what));
        }
        Due.same("undoCount()", 0, x.undoCount());
        Due.same("formattedByte(0)", -1, x.formattedByte(0));
        Due.yes("there is no snapshot", !x.restoreSnapshot());
        Due.illegal("load(1)", () -> x.load(1));
        Due.illegal("play(1)", () -> x.play(1));
        Due.same("the first feed", 20, x.feed(0, 0, 0, 0, 0));
        Sentence.of(Sentence.TERMS, "NONE = -1: There is no such value.");
        Due.same("NONE", -1, SlipArchive.NONE);
    }

    private static void feed() {
        Sentence.of(2, "Appends 20 bytes to the buffer: the four bytes of each parameter, the most significant byte first.");
        for (int place = 0; place < 20; place++) {
            for (int sign : new int[] {'?', 0, 127, 128, 255}) {
                int[] parts = {0x20202020, 0x20202020, 0x20202020, 0x20202020, 0x20202020};
                int shift = 24 - place % 4 * 8;
                parts[place / 4] = parts[place / 4] & ~(255 << shift) | sign << shift;
                SlipArchive x = new SlipArchive();
                x.feed(parts[0], parts[1], parts[2], parts[3], parts[4]);
                Due.same("load of the byte " + sign + " at " + place, -11, x.load(20));
                Due.same("its position", place, x.errorPosition());
            }
        }
        Sentence.of(2, "Returns the number of bytes in the buffer; NONE if it would exceed 700, and then nothing is appended.");
        SlipArchive x = new SlipArchive();
        for (int bytes = 20; bytes <= 700; bytes += 20) {
            Due.same("feed to " + bytes, bytes, x.feed(0x20202020, 0x20202020, 0x20202020, 0x20202020, 0x20202020));
        }
        Due.same("feed above 700", -1, x.feed(0x3f3f3f3f, 0x3f3f3f3f, 0x3f3f3f3f, 0x3f3f3f3f, 0x3f3f3f3f));
        Due.same("feed above 700 again", -1, x.feed(0, 0, 0, 0, 0));
        Due.illegal("load(701)", () -> x.load(701));
        Due.illegal("play(720)", () -> x.play(720));
        Due.same("a script of 700 blanks", 0, x.play(700));
        Due.same("feed of the empty buffer", 20, x.feed(0, 0, 0, 0, 0));
    }

    private static void load() {
        Sentence.of(3, "Reads the first bytes of the buffer as a text, which replaces everything but accounts 0 to 2;");
        SlipArchive x = Made.busy();
        x.load(0);
        x.dropSlip(7);
        x.undo();
        String text = "archive 5 1 3 4;folder 8;folder 3 until 7;";
        Due.feed(x, text + "?");
        Due.same("load", 2, x.load(text.length()));
        Due.same("the state", Due.state(Due.made(text)), Due.state(x));
        Due.same("the row", "8!3|", Due.formatted(x));
        for (int account = 3; account <= 10; account++) {
            Due.same("account(" + account + ")", 0, x.account(account));
        }
        Due.same("accounts 0 to 2", "9 1 1", Due.lasting(x));
        loadBehindWork();
        Sentence.of(3, "the undo history and the snapshot are discarded.");
        Due.same("undoCount()", 0, x.undoCount());
        Due.same("undo()", -1, x.undo());
        Due.yes("there is no snapshot", !x.restoreSnapshot());
        Sentence.of(3, "The buffer is empty afterwards, also after an error.");
        Due.illegal("load(1) behind a text", () -> x.load(1));
        Due.same("feed behind a text", 20, x.feed(0, 0, 0, 0, 0));
        Due.same("load(5) of an error", -11, x.load(5));
        Due.illegal("load(1) behind an error", () -> x.load(1));
        Due.same("feed behind an error", 20, x.feed(0, 0, 0, 0, 0));
        Due.same("load(0)", -11, x.load(0));
        Due.illegal("play(1) behind an error", () -> x.play(1));
        Sentence.of(3, "Returns the number of folders;");
        Due.same("one folder", 1, Due.load(x, "archive 1 1 1 1;folder 0;"));
        Due.same("24 folders", 24, Due.load(x, Made.text(24)));
        Due.same("23 folders", 23, Due.load(x, Made.text(23)));
    }

    /** Whatever was there, was forecast, or was read up to an error: nothing of it is left. */
    private static void loadBehindWork() {
        String text = "archive 5 6 2 5;folder 30;folder 20 until 2;folder 10;folder 40;folder 50;";
        SlipArchive x = new SlipArchive();
        Due.play(x, "slip 0 10;slip 0 40;slip 1 20;slip 1 30;day 2;return 10;until 50 9;");
        Due.same("TRIES of the first slip", 2, x.waiting(0, 3));
        Due.same("the trolley", 1, x.size(8));
        x.servedBy(0);
        Due.same("a text with an error at its end", -11, Due.load(x, "archive 6 1 8 1;folder 7 until 9;folder 8;folder"));
        Due.same("load", 5, Due.load(x, text));
        SlipArchive y = Due.made(text);
        Due.same("the state behind work", Due.state(y), Due.state(x));
        Due.same("gap() behind work", 0, x.gap());
        String orders = "slip 0 30;slip 1 20;slip 0 10;slip 1 50;day 1;slip 1 30;return 50;day 4;slip 0 50;";
        Due.same("orders behind a text", Due.play(y, orders), Due.play(x, orders));
        Due.same("their state", Due.state(y), Due.state(x));
        Due.same("their row", Due.formatted(y), Due.formatted(x));
    }

    private static void loadErrors() {
        Sentence.of(3, "-10 minus the error code if the text has an error (then only the buffer and the error position change).");
        loadError("archive 1 1 1 1;folder 1;folder 2 until", 1, 39);
        loadError("archive 1 1 1 1;folder 1;folder 2 until 1000;", 2, 40);
        loadError("archive 1 1 1 1;folder 1;folder 2;folder 1;", 3, 41);
        loadError(Made.text(24) + "folder", 4, Made.text(24).length());
        Sentence.of(3, "Throws IllegalArgumentException if length is negative or greater than the number of bytes in the buffer"
            + " (nothing changes)");
        for (int length : new int[] {-1, 21, Integer.MIN_VALUE, Integer.MAX_VALUE}) {
            Refused.illegal("load(" + length + ") of 20 bytes", Made::busy, x -> x.load(length));
        }
        Refused.illegal("load(1) of none", SlipArchive::new, x -> x.load(1));
        SlipArchive x = Made.busy();
        Due.same("load(20) of 20 bytes", -11, x.load(20));
        Due.same("load(0) of none", -11, x.load(0));
    }

    private static void loadError(String text, int code, int position) {
        Refused.text("load of error " + code, -10 - code, position, () -> {
            SlipArchive x = Made.busy();
            x.load(0);
            return x;
        }, x -> Due.load(x, text));
    }

    private static void errorPosition() {
        Sentence.of(4, "Returns the position of the error of the most recent call of load or play that read the buffer;");
        SlipArchive x = new SlipArchive();
        Due.load(x, "archive 15");
        Due.same("behind a load", 8, x.errorPosition());
        Due.play(x, "day 1;day");
        Due.same("behind a play", 9, x.errorPosition());
        Due.illegal("play(1)", () -> x.play(1));
        Due.illegal("load(-1)", () -> x.load(-1));
        Due.same("behind calls that did not read", 9, x.errorPosition());
        x.load(0);
        Due.same("of no bytes", 0, x.errorPosition());
        Due.feed(x, " ".repeat(700));
        x.load(700);
        Due.same("of 700 blanks", 700, x.errorPosition());
        Sentence.of(4, "NONE if that call had no error, or there was no such call.");
        Due.same("of a new object", -1, new SlipArchive().errorPosition());
        Due.same("a play", 0, x.play(0));
        Due.same("behind a play without error", -1, x.errorPosition());
        Due.load(x, "archive 15");
        Due.play(x, "drop 0;");
        Due.same("behind a play with an order that was refused", -1, x.errorPosition());
        Due.load(x, "archive 15");
        Due.load(x, "archive 1 1 1 1;folder 1;");
        Due.same("behind a load without error", -1, x.errorPosition());
    }

    private static void signs() {
        Sentence.of(Sentence.TERMS, "The bytes 32 and 10 separate tokens and are otherwise ignored. Every other byte is an invalid token.");
        for (int sign = 0; sign < 256; sign++) {
            boolean blank = sign == 32 || sign == 10;
            boolean digit = sign >= '0' && sign <= '9';
            String put = String.valueOf((char) sign);
            loaded(sign + " ahead", put + HEAD + "folder 1;", blank ? 1 : -11, 0);
            loaded(sign + " behind", HEAD + "folder 1;" + put, blank ? 1 : -11, 25);
            // 1 and 2 are two numbers with a blank between them, and one with a digit
            int between = blank || sign == ';' ? 25 : 24;
            loaded(sign + " between digits", HEAD + "folder 1" + put + "2;", digit ? 1 : -11, between);
            loaded(sign + " ahead of a ;", HEAD + "folder 1" + put + ";", blank || digit ? 1 : -11, sign == ';' ? 25 : 24);
            played(sign + " in a script", "day" + put + "1;", blank || digit ? 1 : -11,
                sign >= 'a' && sign <= 'z' ? 0 : 3, digit && sign > '5');
        }
        loaded("many of them", "\n\n archive\n3  2\n \n2 2\n;\n folder  1 ;  \n", 1, -1);
        loaded("none where a word meets a number", "archive3 2 2 2;folder1until2;folder2;", 2, -1);
    }

    private static void loaded(String what, String text, int answer, int position) {
        SlipArchive x = new SlipArchive();
        Due.same("load with " + what, answer, Due.load(x, text));
        Due.same("errorPosition() with " + what, answer > 0 ? -1 : position, x.errorPosition());
    }

    /** A day of 61 to 91 is a number that is out of range. */
    private static void played(String what, String text, int answer, int position, boolean tooMany) {
        SlipArchive x = new SlipArchive();
        Due.same("play with " + what, tooMany ? -12 : answer, Due.play(x, text));
        Due.same("errorPosition() with " + what, tooMany ? 3 : answer >= 0 ? -1 : position, x.errorPosition());
    }

    private static void words() {
        Sentence.of(Sentence.TERMS, "a word is a maximal run of the letters a to z;");
        for (String word : new String[] {"archiv", "archives", "xrchive", "archivx", "xarchive", "archivearchive", "folder", "a", "z", "Archive", "ARCHIVE"}) {
            loaded("the word " + word, word + " 3 2 2 2;folder 1;", -11, 0);
        }
        for (String word : new String[] {"folde", "folders", "xolder", "foldex", "folderfolder", "archive", "until", "afolder", "fo",
            "Folder"}) {
            loaded("the word " + word, HEAD + word + " 1;", -11, 16);
            loaded("the second word " + word, HEAD + "folder 2;" + word + " 1;", -11, 25);
        }
        for (String word : new String[] {"unti", "untilx", "xntil", "untix", "untiluntil", "folder", "UNTIL", "u"}) {
            loaded("the word " + word, HEAD + "folder 1 " + word + " 2;", -11, 25);
        }
        String[] orders = {"slip 0 10;", "drop 0;", "return 10;", "day 1;", "misfile 10 0;", "check 1;", "until 10 0;"};
        for (String order : orders) {
            String word = order.substring(0, order.indexOf(' '));
            String rest = order.substring(order.indexOf(' '));
            for (String other : new String[] {word + "s", "s" + word, word.substring(1), "x" + word.substring(1),
                word.substring(0, word.length() - 1), word.substring(0, word.length() - 1) + "x", word + word, word.toUpperCase()}) {
                SlipArchive x = new SlipArchive();
                Due.same("the word " + other, -11, Due.play(x, "check 1;" + other + rest));
                Due.same("its position", 8, x.errorPosition());
            }
        }
    }

    private static void numbers() {
        Sentence.of(Sentence.TERMS, "a number is a maximal run of digits (leading zeros are allowed);");
        String zeros = "0".repeat(300);
        SlipArchive x = Due.made("archive " + zeros + "14 06 008 0005;folder " + zeros + "123 until 0000000000000999;");
        Due.same("PERIOD", 14, x.size(1));
        Due.same("HANDS", 6, x.size(2));
        Due.same("readers", 8, x.size(3));
        Due.same("LIMIT", 5, x.size(4));
        Due.same("MARK", 123, x.folder(0, 0));
        Due.same("EMBARGO", 999, x.folder(0, 1));
        SlipArchive digits = Due.made("archive 1 1 1 1;folder 9876;folder 5432;folder 10;");
        Due.same("MARK of all digits", 9876, digits.folder(0, 0));
        Due.same("MARK of all digits", 5432, digits.folder(1, 0));
        Due.same("MARK of all digits", 10, digits.folder(2, 0));
        Due.same("zeros in a script", 2, Due.play(x, "until 000000123 00;slip 00000007 00000123;"));
        Due.same("a zero alone", 1, Due.load(x, "archive 1 1 1 1;folder 000;"));
        Due.same("MARK 0", 0, x.folder(0, 0));
        // numbers that come back into the range if they wrap around
        for (String great : new String[] {"2147483647", "2147483648", "4294967296", "4294967297", "18446744073709551617",
            "10000000000000000000000000000000000000001"}) {
            loaded("the number " + great, HEAD + "folder " + great + ";", -12, 23);
            loaded("EMBARGO " + great, HEAD + "folder 1 until " + great + ";", -12, 31);
            loaded("PERIOD " + great, "archive " + great + " 2 2 2;", -12, 8);
            SlipArchive y = new SlipArchive();
            Due.same("day " + great, -12, Due.play(y, "day " + great + ";"));
        }
        loaded("600 digits", HEAD + "folder " + "9".repeat(600), -12, 23);
    }

    private static void grammar() {
        Sentence.of(Sentence.TERMS, "text: 'archive' PERIOD HANDS READERS LIMIT ';' folder folder*");
        loaded("no folder", HEAD, -11, 16);
        loaded("one number less", "archive 3 2 2;folder 1;", -11, 13);
        loaded("one number more", "archive 3 2 2 2 2;folder 1;", -11, 16);
        loaded("no ;", "archive 3 2 2 2 folder 1;", -11, 16);
        loaded("two ;", "archive 3 2 2 2;;folder 1;", -11, 16);
        loaded("two heads", HEAD + HEAD + "folder 1;", -11, 16);
        loaded("a head behind folders", HEAD + "folder 1;" + HEAD, -11, 25);
        loaded("a word for a number", "archive 3 two 2 2;folder 1;", -11, 10);
        Sentence.of(Sentence.TERMS, "folder: 'folder' MARK ['until' EMBARGO] ';'");
        loaded("no MARK", HEAD + "folder;", -11, 22);
        loaded("no MARK ahead of until", HEAD + "folder until 3;", -11, 23);
        loaded("no EMBARGO", HEAD + "folder 1 until;", -11, 30);
        loaded("EMBARGO without until", HEAD + "folder 1 2;", -11, 25);
        loaded("two EMBARGOs", HEAD + "folder 1 until 2 3;", -11, 33);
        loaded("two untils", HEAD + "folder 1 until until 3;", -11, 31);
        loaded("no ; between folders", HEAD + "folder 1 folder 2;", -11, 25);
        loaded("two ; between folders", HEAD + "folder 1;;folder 2;", -11, 25);
        loaded("an order", HEAD + "folder 1;day 1;", -11, 25);
        Sentence.of(Sentence.TERMS, "EMBARGO is 0 if it is not told.");
        SlipArchive x = Due.made(HEAD + "folder 1 until 9;folder 2;folder 3 until 0;");
        Due.same("EMBARGO that is told", 9, x.folder(0, 1));
        Due.same("EMBARGO that is not told", 0, x.folder(1, 1));
        Due.same("it is open", 0, x.folder(1, 6));
        Due.same("EMBARGO 0", 0, x.folder(2, 1));
        Sentence.of(Sentence.TERMS, "order: 'slip' reader MARK ';' | 'drop' number ';' | 'return' MARK ';' | 'day' number ';' |"
            + " 'misfile' MARK number ';' | 'check' number ';' | 'until' MARK EMBARGO ';'");
        for (String word : new String[] {"slip", "drop", "return", "day", "misfile", "check", "until"}) {
            boolean two = word.equals("slip") || word.equals("misfile") || word.equals("until");
            String whole = word + (two ? " 1 1" : " 1");
            scriptError("nothing behind " + word, word, 1, word.length());
            scriptError("no number of " + word, word + ";", 1, word.length());
            scriptError("no ; behind " + word, whole, 1, whole.length());
            scriptError("a number more for " + word, whole + " 1;", 1, whole.length() + 1);
            scriptError("a word for a number of " + word, word + " day;", 1, word.length() + 1);
            scriptError("no ; between two of " + word, whole + " " + whole + ";", 1, whole.length() + 1);
            scriptError("two ; behind " + word, whole + ";;", 1, whole.length() + 1);
            if (two) {
                scriptError("no second number of " + word, word + " 1;", 1, word.length() + 2);
                scriptError("a word for the second number of " + word, word + " 1 until;", 1, word.length() + 3);
            }
            SlipArchive whole1 = new SlipArchive();
            Due.yes("the order " + whole, Due.play(whole1, whole + ";") >= 0);
        }
        for (String word : new String[] {"giveBack", "days", "straighten", "archive", "folder", "undo", "play"}) {
            scriptError(word + " is no order", word + " 1;", 1, 0);
        }
        scriptError("a ; alone", ";", 1, 0);
        scriptError("a number alone", "1;", 1, 0);
    }

    private static void scriptError(String what, String script, int code, int position) {
        SlipArchive x = new SlipArchive();
        Due.same(what + ": play of " + script, -10 - code, Due.play(x, script));
        Due.same(what + ": errorPosition() of " + script, position, x.errorPosition());
    }

    private static boolean isLetter(String text, int at) {
        return text.charAt(at) >= 'a' && text.charAt(at) <= 'z';
    }

    /** Where a text's first bytes have their error: a cut word is one that is not allowed, else the text ends too early. */
    private static int cutAt(String text, int length) {
        int start = length;
        if (length > 0 && length < text.length() && isLetter(text, length - 1) && isLetter(text, length)) {
            while (start > 0 && isLetter(text, start - 1)) {
                start--;
            }
        }
        return start;
    }

    private static void cutTexts() {
        Sentence.of(Sentence.TERMS, "1 The token is invalid or not allowed here, or the text ends too early (the position is then the length"
            + " of the text).");
        String text = "archive 3 2 2 2 ;\nfolder 10 until 4;";
        for (int length = 0; length < text.length(); length++) {
            loaded(length + " bytes of a text", text.substring(0, length), -11, cutAt(text, length));
            SlipArchive x = new SlipArchive();
            Due.feed(x, text);
            Due.same("load(" + length + ") of a longer text", -11, x.load(length));
            Due.same("its errorPosition()", cutAt(text, length), x.errorPosition());
        }
        for (int length = 0; length <= SCRIPT.length(); length++) {
            boolean whole = length == 0 || SCRIPT.charAt(length - 1) == ';';
            SlipArchive x = new SlipArchive();
            Due.feed(x, SCRIPT);
            int answer = x.play(length);
            Due.yes("play(" + length + ") answered " + answer, whole ? answer >= 0 : answer == -11);
            Due.same("its errorPosition()", whole ? -1 : cutAt(SCRIPT, length), x.errorPosition());
        }
        loaded("blanks at the end", "archive 3 \n\n", -11, 12);
    }

    /** The numbers that a place of a text takes: those at the ends, and the first ones beyond. */
    private static void range(String what, String ahead, int least, int most, String behind) {
        for (int number : new int[] {least, most}) {
            SlipArchive x = new SlipArchive();
            Due.same(what + " " + number, 1, Due.load(x, ahead + number + behind));
        }
        int[] beyond = least > 0 ? new int[] {least - 1, most + 1} : new int[] {most + 1};
        for (int number : beyond) {
            loadRange(what + " " + number, ahead, number, behind);
        }
    }

    private static void loadRange(String what, String ahead, int number, String behind) {
        SlipArchive x = new SlipArchive();
        Due.same(what, -12, Due.load(x, ahead + number + behind));
        Due.same("errorPosition() of " + what, ahead.length(), x.errorPosition());
        SlipArchive cut = new SlipArchive();
        Due.same(what + " at the end of a text", -12, Due.load(cut, ahead + number));
    }

    private static void textRanges() {
        Sentence.of(Sentence.TERMS, "2 A number that is out of range.");
        range("PERIOD", "archive ", 1, 14, " 1 1 1;folder 1;");
        range("HANDS", "archive 1 ", 1, 6, " 1 1;folder 1;");
        range("READERS", "archive 1 1 ", 1, 8, " 1;folder 1;");
        range("LIMIT", "archive 1 1 1 ", 1, 5, ";folder 1;");
        range("MARK", "archive 1 1 1 1;folder ", 0, 9999, ";");
        range("EMBARGO", "archive 1 1 1 1;folder 1 until ", 0, 999, ";");
        SlipArchive least = Due.made("archive 1 1 1 1;folder 0 until 0;");
        SlipArchive most = Due.made("archive 14 6 8 5;folder 9999 until 999;");
        int[] due = {1, 14, 1, 6, 1, 8, 1, 5};
        for (int what = 1; what <= 4; what++) {
            Due.same("size(" + what + ") at least", due[what * 2 - 2], least.size(what));
            Due.same("size(" + what + ") at most", due[what * 2 - 1], most.size(what));
        }
        Due.same("MARK at least", 0, least.folder(0, 0));
        Due.same("MARK at most", 9999, most.folder(0, 0));
        Due.same("EMBARGO at most", 999, most.folder(0, 1));
    }

    private static void scriptRange(String what, String ahead, int least, int most, String behind) {
        for (int number : new int[] {least, most}) {
            SlipArchive x = new SlipArchive();
            Due.yes(what + " " + number, Due.play(x, ahead + number + behind) >= 0);
            Due.same("errorPosition() of " + what + " " + number, -1, x.errorPosition());
        }
        scriptError(what, ahead + (most + 1) + behind, 2, ahead.length());
        if (least > 0) {
            scriptError(what, ahead + (least - 1) + behind, 2, ahead.length());
        }
    }

    private static void scriptRanges() {
        Sentence.of(Sentence.TERMS, "In a script a reader is 0 to 7, a MARK 0 to 9999 (whether there is such a one or not), the number of a drop"
            + " 0 to 15, that of a misfile 0 to 23, that of a day 1 to 60, that of a check 1 to 99;");
        scriptRange("the reader of a slip", "slip ", 0, 7, " 10;");
        scriptRange("the MARK of a slip", "slip 0 ", 0, 9999, ";");
        scriptRange("the number of a drop", "drop ", 0, 15, ";");
        scriptRange("the MARK of a return", "return ", 0, 9999, ";");
        scriptRange("the number of a day", "day ", 1, 60, ";");
        scriptRange("the MARK of a misfile", "misfile ", 0, 9999, " 0;");
        scriptRange("the number of a misfile", "misfile 10 ", 0, 23, ";");
        scriptRange("the number of a check", "check ", 1, 99, ";");
        scriptRange("the MARK of an until", "until ", 0, 9999, " 0;");
        scriptRange("the EMBARGO of an until", "until 10 ", 0, 999, ";");
        Sentence.of(Sentence.TERMS, "there are at most 20 orders.");
        SlipArchive x = new SlipArchive();
        Due.same("no orders", 0, x.play(0));
        Due.same("20 orders", 20, Due.play(x, "check 1;".repeat(20)));
        Due.same("21 orders", -14, Due.play(x, "check 1;".repeat(21)));
    }

    private static void codes() {
        Sentence.of(Sentence.TERMS, "3 A MARK of a folder that another one has (in a text).");
        loaded("a MARK twice", HEAD + "folder 7;folder 7;", -13, 32);
        loaded("a MARK twice, with zeros", HEAD + "folder 7;folder 007;", -13, 32);
        loaded("the first MARK as the 24th", Made.text(23) + "folder 9000;", -13, Made.text(23).length() + 7);
        loaded("the last MARK as the 24th", Made.text(23) + "folder 9022;", -13, Made.text(23).length() + 7);
        loaded("another MARK as the 24th", Made.text(23) + "folder 8999;", 24, -1);
        loaded("MARK 0 twice", HEAD + "folder 0;folder 1;folder 0;", -13, 41);
        loaded("EMBARGO as the MARK", HEAD + "folder 7 until 8;folder 8 until 7;", 2, -1);
        Sentence.of(Sentence.TERMS, "4 The keyword of the 25th folder of a text, or of the 21st order.");
        int end = Made.text(24).length();
        loaded("a 25th folder", Made.text(24) + "folder 1;", -14, end);
        loaded("the keyword of a 25th folder", Made.text(24) + "\nfolder", -14, end + 1);
        loaded("24 folders and blanks", Made.text(24) + " \n ", 24, -1);
        String orders = "check 1;".repeat(20);
        for (String word : new String[] {"slip", "drop", "return", "day", "misfile", "check", "until"}) {
            scriptError("a 21st order", orders + word, 4, 160);
            scriptError("a 21st order", orders + " " + word + " 1 1;", 4, 161);
        }
        Refused.text("play of 21 orders", -14, 160, SlipArchive::new, x -> Due.play(x, orders + "check 1;"));
    }

    private static void smallestCodes() {
        Sentence.of(Sentence.TERMS, "if several codes apply to one token, the smallest one.");
        int end = Made.text(24).length();
        loaded("another word than folder behind 24", Made.text(24) + "folders 1;", -11, end);
        loaded("until behind 24", Made.text(24) + "until 1;", -11, end);
        loaded("an invalid token behind 24", Made.text(24) + "!", -11, end);
        scriptError("another word than an order behind 20", "check 1;".repeat(20) + "folder 1;", 1, 160);
        scriptError("a ; behind 20 orders", "check 1;".repeat(20) + ";", 1, 160);
        loaded("a number out of range that is not allowed here", HEAD + "folder 1 99999;", -11, 25);
        scriptError("a number out of range that is not allowed here", "day 1 99999;", 1, 6);
    }

    private static void firstErrors() {
        Sentence.of(Sentence.TERMS, "The first error along the text is reported, at the first byte of its token;");
        loaded("2 ahead of 1", "archive 15 2 2;", -12, 8);
        loaded("1 ahead of 2", "archive 3 ! 15;", -11, 10);
        loaded("2 ahead of 3", HEAD + "folder 1;folder 10000;folder 1;", -12, 32);
        loaded("3 ahead of 2", HEAD + "folder 1;folder 1 until 1000;", -13, 32);
        loaded("3 ahead of 1", HEAD + "folder 1;folder 1!", -13, 32);
        loaded("3 ahead of 4", Made.text(23) + "folder 9000;folder 1;", -13, Made.text(23).length() + 7);
        loaded("4 ahead of 2", Made.text(24) + "folder 10000;", -14, Made.text(24).length());
        loaded("two numbers out of range", "archive 15 7 9 6;", -12, 8);
        scriptError("2 ahead of 1", "day 61!", 2, 4);
        scriptError("1 ahead of 2", "day 1!day 61;", 1, 5);
        scriptError("the first number ahead of the second", "slip 8 10000;", 2, 5);
        scriptError("the second number", "slip 7 10000;", 2, 7);
        scriptError("4 ahead of 2", "check 1;".repeat(20) + "check 100;", 4, 160);
        scriptError("2 in the 20th order", "check 1;".repeat(19) + "check 100;check 1;", 2, 158);
    }
}
