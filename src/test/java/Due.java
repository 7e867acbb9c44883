import java.util.NoSuchElementException;

/** What the tests share: answers that are due, exceptions that are due, and texts for the buffer. */
final class Due {
    private static int right = 0;
    private static int wrong = 0;
    /** What the document says of the answers that are asked for; none in tests that tell no sentences. */
    private static String sentence = "";

    private Due() {
    }

    static void same(String call, double want, double got) {
        report(want == got, call, want + "", got + "");
    }

    static void same(String call, long want, long got) {
        report(want == got, call, want + "", got + "");
    }

    static void same(String call, String want, String got) {
        report(want.equals(got), call, want, got);
    }

    static void yes(String what, boolean holds) {
        report(holds, what, "true", "false");
    }

    static void illegal(String call, Runnable run) {
        report(thrownBy(run) == IllegalArgumentException.class, call, "IllegalArgumentException", thrownBy(run) + "");
    }

    static void noSuch(String call, Runnable run) {
        report(thrownBy(run) == NoSuchElementException.class, call, "NoSuchElementException", thrownBy(run) + "");
    }

    private static Class<?> thrownBy(Runnable run) {
        try {
            run.run();
            return null;
        } catch (RuntimeException thrown) {
            return thrown.getClass();
        }
    }

    private static void report(boolean holds, String call, String want, String got) {
        if (holds) {
            right++;
        } else {
            wrong++;
            System.out.println(sentence + call + " answered " + got + ", due is " + want);
        }
    }

    /** Tells the sentence of the document that is asked for from here on. */
    static void says(String words) {
        sentence = words + "\n    ";
    }

    /** How many answers were looked at until now. */
    static int asked() {
        return right + wrong;
    }

    /** Ends a test's main. */
    static void end() {
        System.out.println(right + " answers as due, " + wrong + " not");
        if (wrong != 0 || right == 0) {
            System.exit(1);
        }
    }

    /** Feeds a text, filled up with blanks to whole calls of feed. */
    static void feed(SlipArchive x, String text) {
        for (int from = 0; from < text.length(); from += 20) {
            int[] parts = new int[5];
            for (int i = 0; i < 20; i++) {
                int sign = from + i < text.length() ? text.charAt(from + i) : ' ';
                parts[i / 4] |= sign << 24 - i % 4 * 8;
            }
            x.feed(parts[0], parts[1], parts[2], parts[3], parts[4]);
        }
    }

    static int load(SlipArchive x, String text) {
        feed(x, text);
        return x.load(text.length());
    }

    static int play(SlipArchive x, String text) {
        feed(x, text);
        return x.play(text.length());
    }

    static SlipArchive made(String text) {
        SlipArchive x = new SlipArchive();
        if (load(x, text) < 1) {
            throw new IllegalStateException("a test's text has an error at " + x.errorPosition() + ": " + text);
        }
        return x;
    }

    static String formatted(SlipArchive x) {
        StringBuilder text = new StringBuilder();
        int length = x.format();
        for (int i = 0; i < length; i++) {
            text.append((char) x.formattedByte(i));
        }
        return text.toString();
    }

    /** All answers that tell the state, but not the buffer, the error position and accounts 0 to 2. */
    static String state(SlipArchive x) {
        StringBuilder all = new StringBuilder();
        for (int what = 0; what <= 11; what++) {
            all.append(x.size(what)).append(' ');
        }
        for (int what = 3; what <= 10; what++) {
            all.append(x.account(what)).append(' ');
        }
        // each size is asked for once: an object answers 512 calls
        for (int folder = 0, folders = x.size(5); folder < folders; folder++) {
            for (int what = 0; what <= 6; what++) {
                all.append(x.folder(folder, what)).append(' ');
            }
        }
        for (int reader = 0, readers = x.size(3); reader < readers; reader++) {
            for (int what = 0; what <= 2; what++) {
                all.append(x.reader(reader, what)).append(' ');
            }
        }
        for (int place = 0, slips = x.size(9); place < slips; place++) {
            for (int what = 0; what <= 4; what++) {
                all.append(x.waiting(place, what)).append(' ');
            }
        }
        for (int place = 0, folders = x.size(6); place < folders; place++) {
            all.append(x.at(place)).append(' ');
        }
        return all.toString();
    }

    /** Enough of the state to tell one operation from another, in few calls: an object answers 512. */
    static String brief(SlipArchive x) {
        int length = x.format();
        StringBuilder all = new StringBuilder().append(length).append(' ');
        for (int index = 0; index < Math.min(length, 20); index++) {
            all.append((char) x.formattedByte(index));
        }
        for (int what : new int[] {0, 5, 7, 8, 9}) {
            all.append(' ').append(x.size(what));
        }
        for (int what : new int[] {3, 4, 7, 8}) {
            all.append(' ').append(x.account(what));
        }
        return all.append(' ').append(x.waiting(0, 1)).append(' ').append(x.folder(0, 1)).toString();
    }

    /** The accounts that are counted since the object was made. */
    static String lasting(SlipArchive x) {
        return x.account(0) + " " + x.account(1) + " " + x.account(2);
    }
}
