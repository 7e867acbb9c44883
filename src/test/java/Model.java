import java.util.ArrayList;
import java.util.Collections;
import java.util.Comparator;
import java.util.List;
import java.util.NoSuchElementException;
import java.util.regex.Matcher;
import java.util.regex.Pattern;

/** The document once more, told as plainly as it goes and without thought of room or speed; ModelTest compares. */
public final class Model {
    private static final class Folder {
        int mark;
        int embargo;
        int reader = -1;
        int times = 0;

        Folder(int mark, int embargo) {
            this.mark = mark;
            this.embargo = embargo;
        }
    }

    private record Slip(int reader, int folder, int day, int tries) {
    }

    private static final class World implements Cloneable {
        int day = 0;
        int period;
        int hands;
        int readers;
        int limit;
        List<Folder> folders = new ArrayList<>();
        List<Integer> row = new ArrayList<>();
        List<Integer> trolley = new ArrayList<>();
        List<Slip> slips = new ArrayList<>();
        List<Integer> received = new ArrayList<>();
        long[] accounts = new long[11];

        World copy() {
            World w = new World();
            w.day = day;
            w.period = period;
            w.hands = hands;
            w.readers = readers;
            w.limit = limit;
            for (Folder f : folders) {
                Folder g = new Folder(f.mark, f.embargo);
                g.reader = f.reader;
                g.times = f.times;
                w.folders.add(g);
            }
            w.row.addAll(row);
            w.trolley.addAll(trolley);
            w.slips.addAll(slips);
            w.received.addAll(received);
            w.accounts = accounts.clone();
            return w;
        }

        int mark(int place) {
            return folders.get(row.get(place)).mark;
        }

        int held(int reader) {
            return (int) folders.stream().filter(f -> f.reader == reader).count();
        }

        int marked(int mark) {
            for (int f = 0; f < folders.size(); f++) {
                if (folders.get(f).mark == mark) {
                    return f;
                }
            }
            return -1;
        }

        /** The places that are looked at, the last of them with the MARK if it is found. */
        List<Integer> search(int mark, int from, int to) {
            List<Integer> looked = new ArrayList<>();
            if (from > to) {
                return looked;
            }
            int middle = (from + to) / 2;
            looked.add(middle);
            if (mark(middle) > mark) {
                looked.addAll(search(mark, from, middle - 1));
            } else if (mark(middle) < mark) {
                looked.addAll(search(mark, middle + 1, to));
            }
            return looked;
        }

        List<Integer> search(int mark) {
            return search(mark, 0, row.size() - 1);
        }

        int found(int mark) {
            List<Integer> looked = search(mark);
            int last = looked.isEmpty() ? -1 : looked.get(looked.size() - 1);
            return last >= 0 && mark(last) == mark ? last : -1;
        }

        int refilePlace(int mark) {
            List<Integer> looked = search(mark);
            if (looked.isEmpty()) {
                return 0;
            }
            int last = looked.get(looked.size() - 1);
            return mark(last) >= mark ? last : last + 1;
        }

        int missed() {
            int missed = 0;
            for (int f : row) {
                missed += found(folders.get(f).mark) < 0 ? 1 : 0;
            }
            return missed;
        }

        int idle(Slip s) {
            Folder f = folders.get(s.folder());
            if (f.reader >= 0) {
                return 1;
            }
            if (trolley.contains(s.folder())) {
                return 2;
            }
            if (day < f.embargo) {
                return 3;
            }
            return held(s.reader()) == limit ? 4 : 0;
        }

        int pass() {
            day++;
            if (day % period == 0) {
                while (!trolley.isEmpty()) {
                    int f = trolley.remove(0);
                    accounts[7] += search(folders.get(f).mark).size();
                    accounts[8]++;
                    row.add(refilePlace(folders.get(f).mark), f);
                }
            }
            int served = 0;
            int searches = 0;
            for (Slip s : List.copyOf(slips)) {
                if (searches == hands || idle(s) > 0) {
                    continue;
                }
                searches++;
                Folder f = folders.get(s.folder());
                boolean halving = s.tries() < 2;
                if (halving) {
                    accounts[7] += search(f.mark).size();
                } else {
                    accounts[6]++;
                }
                if (halving && found(f.mark) < 0) {
                    accounts[5]++;
                    slips.set(slips.indexOf(s), new Slip(s.reader(), s.folder(), s.day(), s.tries() + 1));
                    continue;
                }
                served++;
                slips.remove(s);
                row.remove(Integer.valueOf(s.folder()));
                f.reader = s.reader();
                f.times++;
                received.set(s.reader(), received.get(s.reader()) + 1);
                accounts[4]++;
                accounts[10] += day - s.day();
            }
            return served;
        }

        int pass(int many) {
            int served = 0;
            for (int i = 0; i < many; i++) {
                served += pass();
            }
            return served;
        }

        int swap(int most) {
            for (int swapped = 0; swapped < most; swapped++) {
                int place = 1;
                while (place < row.size() && mark(place) > mark(place - 1)) {
                    place++;
                }
                if (place >= row.size()) {
                    return swapped;
                }
                Collections.swap(row, place - 1, place);
            }
            return most;
        }

        int slipOf(int reader, int folder) {
            for (int i = 0; i < slips.size(); i++) {
                if (slips.get(i).reader() == reader && slips.get(i).folder() == folder) {
                    return i;
                }
            }
            return -1;
        }

        int why(int reader, int folder) {
            if (folders.get(folder).reader == reader) {
                return -2;
            }
            if (slipOf(reader, folder) >= 0) {
                return -3;
            }
            return slips.size() == 16 ? -4 : 0;
        }
    }

    private interface Operation {
        int run();
    }

    /** A token: its kind is w, n, ; or ? and e for the end. */
    private record Token(char kind, String text, int at) {
    }

    private World w;
    private World snapshot = null;
    private final List<World> past = new ArrayList<>();
    private String buffer = "";
    private String formatted = "";
    private int errorAt = -1;
    private final long[] lasting = new long[3];

    private List<Token> tokens;
    private int next;
    private int error;

    public Model() {
        parseArchive("archive 3 2 2 2;folder 10;folder 20;folder 30 until 4;folder 50;folder 40;");
    }

    private static void need(boolean holds) {
        if (!holds) {
            throw new IllegalArgumentException();
        }
    }

    private void needFolder(int folder) {
        if (folder < 0 || folder >= w.folders.size()) {
            throw new NoSuchElementException();
        }
    }

    private void needReader(int reader) {
        if (reader < 0 || reader >= w.readers) {
            throw new NoSuchElementException();
        }
    }

    public int feed(int a, int b, int c, int d, int e) {
        if (buffer.length() + 20 > 700) {
            return -1;
        }
        for (int part : new int[] {a, b, c, d, e}) {
            for (int i = 3; i >= 0; i--) {
                buffer += (char) (part >> 8 * i & 0xff);
            }
        }
        return buffer.length();
    }

    private void tokenize(String text) {
        tokens = new ArrayList<>();
        next = 0;
        error = 0;
        errorAt = -1;
        Matcher m = Pattern.compile("([a-z]+)|([0-9]+)|(;)|[ \n]|(.)", Pattern.DOTALL).matcher(text);
        while (m.find()) {
            char kind = m.group(1) != null ? 'w' : m.group(2) != null ? 'n' : m.group(3) != null ? ';'
                : m.group(4) != null ? '?' : ' ';
            if (kind != ' ') {
                tokens.add(new Token(kind, m.group(), m.start()));
            }
        }
        tokens.add(new Token('e', "", text.length()));
    }

    /** Ends the reading with a code at the token that is next. */
    private IllegalStateException stop(int code) {
        error = code;
        errorAt = tokens.get(next).at();
        return new IllegalStateException();
    }

    private void want(String text) {
        if (!tokens.get(next).text().equals(text)) {
            throw stop(1);
        }
        next++;
    }

    private int number(int least, int most) {
        Token t = tokens.get(next);
        if (t.kind() != 'n') {
            throw stop(1);
        }
        java.math.BigInteger value = new java.math.BigInteger(t.text());
        if (value.bitLength() > 30 || value.intValue() < least || value.intValue() > most) {
            throw stop(2);
        }
        next++;
        return value.intValue();
    }

    private void parseArchive(String text) {
        tokenize(text);
        try {
            World made = new World();
            want("archive");
            made.period = number(1, 14);
            made.hands = number(1, 6);
            made.readers = number(1, 8);
            made.limit = number(1, 5);
            want(";");
            do {
                if (made.folders.size() == 24 && tokens.get(next).text().equals("folder")) {
                    throw stop(4);
                }
                want("folder");
                int at = next;
                int mark = number(0, 9999);
                if (made.marked(mark) >= 0) {
                    next = at;
                    throw stop(3);
                }
                int embargo = 0;
                if (tokens.get(next).text().equals("until")) {
                    next++;
                    embargo = number(0, 999);
                }
                want(";");
                made.row.add(made.folders.size());
                made.folders.add(new Folder(mark, embargo));
            } while (tokens.get(next).kind() != 'e');
            for (int i = 0; i < made.readers; i++) {
                made.received.add(0);
            }
            w = made;
        } catch (IllegalStateException stopped) {
            // error and errorAt tell it
        }
    }

    private List<int[]> parseScript(String text) {
        List<String> words = List.of("slip", "drop", "return", "day", "misfile", "check", "until");
        int[][] ranges = {{0, 7, 0, 9999}, {0, 15}, {0, 9999}, {1, 60}, {0, 9999, 0, 23}, {1, 99}, {0, 9999, 0, 999}};
        tokenize(text);
        List<int[]> orders = new ArrayList<>();
        try {
            while (tokens.get(next).kind() != 'e') {
                int word = words.indexOf(tokens.get(next).text());
                if (word < 0) {
                    throw stop(1);
                }
                if (orders.size() == 20) {
                    throw stop(4);
                }
                next++;
                int[] order = {word, 0, 0};
                for (int i = 0; i < ranges[word].length; i += 2) {
                    order[1 + i / 2] = number(ranges[word][i], ranges[word][i + 1]);
                }
                want(";");
                orders.add(order);
            }
        } catch (IllegalStateException stopped) {
            // error and errorAt tell it
        }
        return orders;
    }

    public int load(int length) {
        need(length >= 0 && length <= buffer.length());
        String text = buffer.substring(0, length);
        buffer = "";
        parseArchive(text);
        if (error > 0) {
            return -10 - error;
        }
        past.clear();
        snapshot = null;
        return w.folders.size();
    }

    public int errorPosition() {
        return errorAt;
    }

    private int wrongPairs() {
        int wrong = 0;
        for (int i = 1; i < w.row.size(); i++) {
            wrong += w.mark(i) < w.mark(i - 1) ? 1 : 0;
        }
        return wrong;
    }

    public int size(int what) {
        need(what >= 0 && what <= 11);
        int toRefiling = 1;
        while ((w.day + toRefiling) % w.period != 0) {
            toRefiling++;
        }
        int lent = w.folders.size() - w.row.size() - w.trolley.size();
        return new int[] {w.day, w.period, w.hands, w.readers, w.limit, w.folders.size(), w.row.size(), lent,
            w.trolley.size(), w.slips.size(), wrongPairs(), toRefiling}[what];
    }

    public int account(int what) {
        need(what >= 0 && what <= 10);
        return (int) (what < 3 ? lasting[what] : w.accounts[what]);
    }

    public int folder(int folder, int what) {
        needFolder(folder);
        need(what >= 0 && what <= 6);
        Folder f = w.folders.get(folder);
        int state = f.reader >= 0 ? 1 : w.row.contains(folder) ? 0 : 2;
        int where = state == 1 ? f.reader : state == 0 ? w.row.indexOf(folder) : w.trolley.indexOf(folder);
        int slips = (int) w.slips.stream().filter(s -> s.folder() == folder).count();
        return new int[] {f.mark, f.embargo, state, where, slips, f.times, w.day < f.embargo ? 1 : 0}[what];
    }

    public int marked(int mark) {
        return w.marked(mark);
    }

    public int at(int place) {
        return place >= 0 && place < w.row.size() ? w.row.get(place) : -1;
    }

    public int reader(int reader, int what) {
        needReader(reader);
        need(what >= 0 && what <= 2);
        int slips = (int) w.slips.stream().filter(s -> s.reader() == reader).count();
        return new int[] {w.held(reader), slips, w.received.get(reader)}[what];
    }

    public int waiting(int place, int what) {
        need(what >= 0 && what <= 4);
        if (place < 0 || place >= w.slips.size()) {
            return -1;
        }
        Slip s = w.slips.get(place);
        return new int[] {s.reader(), s.folder(), s.day(), s.tries(), w.idle(s)}[what];
    }

    public int gap() {
        return 0;
    }

    public int found(int mark) {
        return w.found(mark);
    }

    public int looks(int mark) {
        return w.search(mark).size();
    }

    public int missed() {
        return w.missed();
    }

    public int refilePlace(int mark) {
        return w.refilePlace(mark);
    }

    public int inversions() {
        int pairs = 0;
        for (int i = 0; i < w.row.size(); i++) {
            for (int j = i + 1; j < w.row.size(); j++) {
                pairs += w.mark(i) > w.mark(j) ? 1 : 0;
            }
        }
        return pairs;
    }

    public int longestOrdered() {
        // the smallest MARKs that end ordered folders, by how many they are
        List<Integer> ends = new ArrayList<>();
        for (int i = 0; i < w.row.size(); i++) {
            int at = Collections.binarySearch(ends, w.mark(i));
            if (-at - 1 == ends.size()) {
                ends.add(w.mark(i));
            } else {
                ends.set(-at - 1, w.mark(i));
            }
        }
        return ends.size();
    }

    public int lookedAt(int mark, int look) {
        List<Integer> looked = w.search(mark);
        return look >= 0 && look < looked.size() ? w.row.get(looked.get(look)) : -1;
    }

    private List<Integer> ordered() {
        List<Integer> ordered = new ArrayList<>(w.row);
        ordered.sort(Comparator.comparingInt(f -> w.folders.get(f).mark));
        return ordered;
    }

    public int mostMisplaced() {
        int best = -1;
        int far = 0;
        for (int f = 0; f < w.folders.size(); f++) {
            int distance = Math.abs(w.row.indexOf(f) - ordered().indexOf(f));
            if (distance > far) {
                far = distance;
                best = f;
            }
        }
        return best;
    }

    public int mostAsked() {
        int best = -1;
        int most = 0;
        for (int f = 0; f < w.folders.size(); f++) {
            if (folder(f, 4) > most) {
                most = folder(f, 4);
                best = f;
            }
        }
        return best;
    }

    public int why(int reader, int folder) {
        needReader(reader);
        needFolder(folder);
        return w.why(reader, folder);
    }

    public int cause(int reader, int folder) {
        return why(reader, folder) == -3 ? w.slipOf(reader, folder) : -1;
    }

    public int waitsFor(int place) {
        if (place < 0 || place >= w.slips.size()) {
            return -1;
        }
        Slip s = w.slips.get(place);
        Folder f = w.folders.get(s.folder());
        return new int[] {-1, f.reader, size(11), f.embargo - w.day, w.held(s.reader())}[w.idle(s)];
    }

    public int servedIn(int place) {
        if (place < 0 || place >= w.slips.size()) {
            return -1;
        }
        Slip s = w.slips.get(place);
        for (int days = 1; days <= 60; days++) {
            World then = w.copy();
            then.pass(days);
            if (then.slipOf(s.reader(), s.folder()) < 0) {
                return days;
            }
        }
        return -1;
    }

    public int servedBy(int days) {
        need(days >= 0 && days <= 60);
        return w.copy().pass(days);
    }

    public int waitingIn(int days) {
        need(days >= 0 && days <= 60);
        World then = w.copy();
        then.pass(days);
        return then.slips.size();
    }

    public int servedWith(int hands) {
        need(hands >= 1 && hands <= 6);
        World then = w.copy();
        then.hands = hands;
        return then.pass(10);
    }

    public int swapsLeft() {
        return w.copy().swap(10000);
    }

    public int missedAfter(int swaps) {
        need(swaps >= 0 && swaps <= 99);
        World then = w.copy();
        then.swap(swaps);
        return then.missed();
    }

    public float foundShare() {
        return w.row.isEmpty() ? 0 : (float) (w.row.size() - w.missed()) / (float) w.row.size();
    }

    public double meanWait() {
        return w.accounts[4] == 0 ? 0 : (double) w.accounts[10] / (double) w.accounts[4];
    }

    private int operation(Operation op) {
        World before = w.copy();
        int answer = op.run();
        if (answer < 0) {
            lasting[1]++;
        } else {
            lasting[0]++;
            record(before);
        }
        return answer;
    }

    private void record(World before) {
        past.add(before);
        if (past.size() > 8) {
            past.remove(0);
        }
    }

    private int doSlip(int reader, int folder) {
        int code = why(reader, folder);
        if (code < 0) {
            return code;
        }
        w.slips.add(new Slip(reader, folder, w.day, 0));
        w.accounts[3]++;
        return w.slips.size() - 1;
    }

    private int doDrop(int place) {
        if (place < 0 || place >= w.slips.size()) {
            return -2;
        }
        w.slips.remove(place);
        return w.slips.size();
    }

    private int doGiveBack(int folder) {
        needFolder(folder);
        int reader = w.folders.get(folder).reader;
        if (reader < 0) {
            return -2;
        }
        w.folders.get(folder).reader = -1;
        w.trolley.add(folder);
        return reader;
    }

    private int doDays(int many) {
        need(many >= 1 && many <= 60);
        return w.day + many > 999 ? -2 : w.pass(many);
    }

    private int doMisfile(int folder, int place) {
        needFolder(folder);
        int before = w.row.indexOf(folder);
        if (before < 0) {
            return -2;
        }
        if (place < 0 || place > w.row.size() - 1) {
            return -3;
        }
        w.row.remove(before);
        w.row.add(place, folder);
        return before;
    }

    private int doStraighten(int folder) {
        needFolder(folder);
        if (!w.row.contains(folder)) {
            return -2;
        }
        int place = ordered().indexOf(folder);
        w.row.remove(Integer.valueOf(folder));
        w.row.add(place, folder);
        return place;
    }

    private int doCheck(int swaps) {
        need(swaps >= 1 && swaps <= 99);
        int swapped = w.swap(swaps);
        w.accounts[9] += swapped;
        return swapped;
    }

    private int doEmbargo(int folder, int day) {
        needFolder(folder);
        need(day >= 0 && day <= 999);
        int before = w.folders.get(folder).embargo;
        w.folders.get(folder).embargo = day;
        return before;
    }

    public int slip(int reader, int folder) {
        return operation(() -> doSlip(reader, folder));
    }

    public int dropSlip(int place) {
        return operation(() -> doDrop(place));
    }

    public int giveBack(int folder) {
        return operation(() -> doGiveBack(folder));
    }

    public int days(int many) {
        return operation(() -> doDays(many));
    }

    public int misfile(int folder, int place) {
        return operation(() -> doMisfile(folder, place));
    }

    public int straighten(int folder) {
        return operation(() -> doStraighten(folder));
    }

    public int check(int swaps) {
        return operation(() -> doCheck(swaps));
    }

    public int setEmbargo(int folder, int day) {
        return operation(() -> doEmbargo(folder, day));
    }

    private int doOrder(int[] o) {
        try {
            return switch (o[0]) {
                case 0 -> doSlip(o[1], w.marked(o[2]));
                case 1 -> doDrop(o[1]);
                case 2 -> doGiveBack(w.marked(o[1]));
                case 3 -> doDays(o[1]);
                case 4 -> doMisfile(w.marked(o[1]), o[2]);
                case 5 -> doCheck(o[1]);
                default -> doEmbargo(w.marked(o[1]), o[2]);
            };
        } catch (NoSuchElementException | IllegalArgumentException refused) {
            return -1;
        }
    }

    public int play(int length) {
        need(length >= 0 && length <= buffer.length());
        String text = buffer.substring(0, length);
        buffer = "";
        List<int[]> orders = parseScript(text);
        if (error > 0) {
            return -10 - error;
        }
        record(w.copy());
        int done = 0;
        while (done < orders.size() && doOrder(orders.get(done)) >= 0) {
            done++;
        }
        lasting[0] += done;
        lasting[1] += done < orders.size() ? 1 : 0;
        return done;
    }

    public int format() {
        StringBuilder text = new StringBuilder();
        for (int i = 0; i < w.row.size(); i++) {
            text.append(i == 0 ? "" : w.mark(i) < w.mark(i - 1) ? "!" : " ").append(w.mark(i));
        }
        text.append('|');
        for (int i = 0; i < w.trolley.size(); i++) {
            text.append(i == 0 ? "" : " ").append(w.folders.get(w.trolley.get(i)).mark);
        }
        formatted = text.toString();
        return formatted.length();
    }

    public int formattedByte(int index) {
        return index >= 0 && index < formatted.length() ? formatted.charAt(index) : -1;
    }

    public int undoCount() {
        return past.size();
    }

    public int undo() {
        if (past.isEmpty()) {
            return -1;
        }
        w = past.remove(past.size() - 1);
        lasting[2]++;
        return past.size();
    }

    public void saveSnapshot() {
        snapshot = w.copy();
    }

    public boolean restoreSnapshot() {
        if (snapshot == null) {
            return false;
        }
        w = snapshot.copy();
        past.clear();
        return true;
    }
}
