import java.util.NoSuchElementException;

/**
 * An archive with closed stacks: folders in a row, readers with slips, clerks who look for folders by halving the row.
 * Everything is made in the constructor and used again, so that no call has to make room of its own.
 */
public final class SlipArchive {
    /** There is no such value. */
    public static final int NONE = -1;

    private static final int MOST_BYTES = 700;
    private static final int FEED_BYTES = 20;
    private static final int MOST_FOLDERS = 24;
    private static final int MOST_READERS = 8;
    private static final int MOST_SLIPS = 16;
    private static final int MOST_ORDERS = 20;
    private static final int MOST_UNDO = 8;
    private static final int MOST_MARK = 9999;
    private static final int MOST_PERIOD = 14;
    private static final int MOST_HANDS = 6;
    private static final int MOST_LIMIT = 5;
    private static final int LAST_DAY = 999;
    private static final int MOST_DAYS = 60;
    private static final int MOST_SWAPS = 99;
    private static final int DAYS_WITH_HANDS = 10;
    /** Forecasts go on beyond DAY 999, by 60 days at most. */
    private static final int LAST_FORECAST_DAY = LAST_DAY + MOST_DAYS;
    /** 24 MARKs of 4 digits with a sign behind each are 120 bytes. */
    private static final int MOST_FORMATTED = 128;

    private static final int IN_ROW = 0;
    private static final int WITH_READER = 1;
    private static final int ON_TROLLEY = 2;

    private static final int IDLE_LENT = 1;
    private static final int IDLE_TROLLEY = 2;
    private static final int IDLE_CLOSED = 3;
    private static final int IDLE_LIMIT = 4;

    private static final int DONE = 0;
    private static final int REFUSED = 1;
    private static final int UNDONE = 2;
    private static final int HANDED_IN = 3;
    private static final int LENT = 4;
    private static final int MISSED = 5;
    private static final int WHOLE_ROWS = 6;
    private static final int LOOKED_AT = 7;
    private static final int REFILED = 8;
    private static final int SWAPPED = 9;
    private static final int WAITED = 10;
    private static final int ACCOUNTS = 11;

    /** What an operation answers where the face throws NoSuchElementException; only scripts meet it. */
    private static final int NO_SUCH = -1;

    private static final int BAD_TOKEN = 1;
    private static final int OUT_OF_RANGE = 2;
    private static final int MARK_TWICE = 3;
    private static final int TOO_MANY = 4;
    /** An error code of a text is told as this less the code. */
    private static final int TEXT_ERROR = -10;

    private final Line buffer = new Line(MOST_BYTES);
    private final Line formatted = new Line(MOST_FORMATTED);
    /** Accounts 0 to 2, which neither a text nor an undo takes back. */
    private final Line lasting = new Line(HANDED_IN);
    private final Parser parser = new Parser(buffer);
    private final Script script = new Script();
    private final History history = new History();
    private final Stacks now = new Stacks();
    /** What a text or a forecast makes, so that an error or a question changes nothing. */
    private final Stacks draft = new Stacks();
    private final Stacks snapshot = new Stacks();
    private boolean hasSnapshot = false;
    private int errorAt = NONE;

    public SlipArchive() {
        lasting.fillWithZeros(HANDED_IN);
        now.begin(3, 2, 2, 2);
        now.addFolder(10, 0);
        now.addFolder(20, 0);
        now.addFolder(30, 4);
        now.addFolder(50, 0);
        now.addFolder(40, 0);
    }

    public int feed(int a, int b, int c, int d, int e) {
        if (buffer.count() + FEED_BYTES > MOST_BYTES) {
            return NONE;
        }
        appendBytes(a);
        appendBytes(b);
        appendBytes(c);
        appendBytes(d);
        appendBytes(e);
        return buffer.count();
    }

    private void appendBytes(int four) {
        for (int shift = 24; shift >= 0; shift -= 8) {
            buffer.add((four >>> shift) & 255);
        }
    }

    public int load(int length) throws IllegalArgumentException {
        if (length < 0 || length > buffer.count()) {
            throw new IllegalArgumentException("there are not so many bytes in the buffer");
        }
        int error = parser.readArchive(length, draft);
        buffer.clear();
        errorAt = parser.errorPlace();
        if (error != 0) {
            return TEXT_ERROR - error;
        }
        now.copyFrom(draft);
        history.clear();
        hasSnapshot = false;
        return now.marks.count();
    }

    public int errorPosition() {
        return errorAt;
    }

    // ---- what there is

    public int size(int what) throws IllegalArgumentException {
        switch (what) {
            case 0: return now.day;
            case 1: return now.period;
            case 2: return now.hands;
            case 3: return now.having.count();
            case 4: return now.limit;
            case 5: return now.marks.count();
            case 6: return now.row.folders.count();
            case 7: return now.states.countOf(WITH_READER);
            case 8: return now.trolley.count();
            case 9: return now.slips.count();
            case 10: return now.row.wrongPairs();
            case 11: return now.daysToRefiling();
            default: throw new IllegalArgumentException("there is no such size");
        }
    }

    public int account(int what) throws IllegalArgumentException {
        if (what < 0 || what >= ACCOUNTS) {
            throw new IllegalArgumentException("there is no such account");
        }
        return what < HANDED_IN ? lasting.get(what) : now.accounts.get(what);
    }

    public int folder(int folder, int what) throws NoSuchElementException, IllegalArgumentException {
        if (!now.hasFolder(folder)) {
            throw new NoSuchElementException("there is no such folder");
        }
        switch (what) {
            case 0: return now.marks.get(folder);
            case 1: return now.embargoes.get(folder);
            case 2: return now.states.get(folder);
            case 3: return now.whereabouts(folder);
            case 4: return now.slips.folders.countOf(folder);
            case 5: return now.lent.get(folder);
            case 6: return now.isClosed(folder) ? 1 : 0;
            default: throw new IllegalArgumentException("there is no such number of a folder");
        }
    }

    public int marked(int mark) {
        return now.marks.placeOf(mark);
    }

    public int at(int place) {
        return now.row.folders.get(place);
    }

    public int reader(int reader, int what) throws NoSuchElementException, IllegalArgumentException {
        if (!now.hasReader(reader)) {
            throw new NoSuchElementException("there is no such reader");
        }
        switch (what) {
            case 0: return now.having.get(reader);
            case 1: return now.slips.readers.countOf(reader);
            case 2: return now.received.get(reader);
            default: throw new IllegalArgumentException("there is no such number of a reader");
        }
    }

    public int waiting(int place, int what) throws IllegalArgumentException {
        if (what < 0 || what > 4) {
            throw new IllegalArgumentException("there is no such number of a slip");
        }
        switch (what) {
            case 0: return now.slips.readers.get(place);
            case 1: return now.slips.folders.get(place);
            case 2: return now.slips.dates.get(place);
            case 3: return now.slips.tries.get(place);
            default: return now.slips.has(place) ? now.idleness(place) : NONE;
        }
    }

    public int gap() {
        return now.foldersAstray() + now.readersAboveLimit() + now.slipsForOwnFolders();
    }

    // ---- searches

    public int found(int mark) {
        return now.row.halve(mark);
    }

    public int looks(int mark) {
        now.row.halve(mark);
        return now.row.looked.count();
    }

    public int missed() {
        return now.row.missedByHalving();
    }

    public int refilePlace(int mark) {
        int place = now.row.halve(mark);
        return place != NONE ? place : now.row.placeBehindMiss(mark);
    }

    public int inversions() {
        return now.row.pairsInWrongOrder();
    }

    public int longestOrdered() {
        return now.row.longestRun();
    }

    public int lookedAt(int mark, int look) {
        now.row.halve(mark);
        return now.row.folders.get(now.row.looked.get(look));
    }

    public int mostMisplaced() {
        return now.row.farthestFromOrder();
    }

    public int mostAsked() {
        int most = 0;
        int asked = NONE;
        for (int folder = 0; folder < now.marks.count(); folder++) {
            int many = now.slips.folders.countOf(folder);
            if (many > most) {
                most = many;
                asked = folder;
            }
        }
        return asked;
    }

    // ---- reasons

    public int why(int reader, int folder) throws NoSuchElementException {
        if (!now.hasReader(reader) || !now.hasFolder(folder)) {
            throw new NoSuchElementException("there is no such reader or folder");
        }
        return now.refusal(reader, folder);
    }

    public int cause(int reader, int folder) throws NoSuchElementException {
        if (!now.hasReader(reader) || !now.hasFolder(folder)) {
            throw new NoSuchElementException("there is no such reader or folder");
        }
        return now.refusal(reader, folder) == -3 ? now.slips.placeFor(reader, folder) : NONE;
    }

    public int waitsFor(int place) {
        if (!now.slips.has(place)) {
            return NONE;
        }
        int folder = now.slips.folders.get(place);
        switch (now.idleness(place)) {
            case IDLE_LENT: return now.holders.get(folder);
            case IDLE_TROLLEY: return now.daysToRefiling();
            case IDLE_CLOSED: return now.embargoes.get(folder) - now.day;
            case IDLE_LIMIT: return now.having.get(now.slips.readers.get(place));
            default: return NONE;
        }
    }

    // ---- forecasts: what would be if nothing but days happened (beyond DAY 999, too); nothing changes

    public int servedIn(int place) {
        if (!now.slips.has(place)) {
            return NONE;
        }
        // places change as slips go, but no two slips have the same reader and folder
        int reader = now.slips.readers.get(place);
        int folder = now.slips.folders.get(place);
        draft.copyFrom(now);
        for (int days = 1; days <= MOST_DAYS; days++) {
            draft.nextDay();
            if (draft.slips.placeFor(reader, folder) == NONE) {
                return days;
            }
        }
        return NONE;
    }

    public int servedBy(int days) throws IllegalArgumentException {
        if (days < 0 || days > MOST_DAYS) {
            throw new IllegalArgumentException("days are 0 to 60");
        }
        draft.copyFrom(now);
        return draft.passDays(days, LAST_FORECAST_DAY);
    }

    public int waitingIn(int days) throws IllegalArgumentException {
        if (days < 0 || days > MOST_DAYS) {
            throw new IllegalArgumentException("days are 0 to 60");
        }
        draft.copyFrom(now);
        draft.passDays(days, LAST_FORECAST_DAY);
        return draft.slips.count();
    }

    public int servedWith(int hands) throws IllegalArgumentException {
        if (hands < 1 || hands > MOST_HANDS) {
            throw new IllegalArgumentException("hands are 1 to 6");
        }
        draft.copyFrom(now);
        draft.hands = hands;
        return draft.passDays(DAYS_WITH_HANDS, LAST_FORECAST_DAY);
    }

    public int swapsLeft() {
        // each swap of a wrong pair of neighbours mends just one pair in wrong order
        return now.row.pairsInWrongOrder();
    }

    public int missedAfter(int swaps) throws IllegalArgumentException {
        if (swaps < 0 || swaps > MOST_SWAPS) {
            throw new IllegalArgumentException("swaps are 0 to 99");
        }
        draft.copyFrom(now);
        draft.row.swapWrongPairs(swaps);
        return draft.row.missedByHalving();
    }

    // ---- measures

    public float foundShare() {
        int all = now.row.folders.count();
        if (all == 0) {
            return 0.0f;
        }
        return (float) (all - now.row.missedByHalving()) / (float) all;
    }

    public double meanWait() {
        int served = now.accounts.get(LENT);
        if (served == 0) {
            return 0.0;
        }
        return (double) now.accounts.get(WAITED) / (double) served;
    }

    // ---- operations

    public int slip(int reader, int folder) throws NoSuchElementException {
        if (!now.hasReader(reader) || !now.hasFolder(folder)) {
            throw new NoSuchElementException("there is no such reader or folder");
        }
        history.prepare(now);
        return settled(now.handIn(reader, folder));
    }

    public int dropSlip(int place) {
        history.prepare(now);
        return settled(now.takeAway(place));
    }

    public int giveBack(int folder) throws NoSuchElementException {
        if (!now.hasFolder(folder)) {
            throw new NoSuchElementException("there is no such folder");
        }
        history.prepare(now);
        return settled(now.bringBack(folder));
    }

    public int days(int many) throws IllegalArgumentException {
        if (many < 1 || many > MOST_DAYS) {
            throw new IllegalArgumentException("days are 1 to 60");
        }
        history.prepare(now);
        return settled(now.passDays(many, LAST_DAY));
    }

    public int misfile(int folder, int place) throws NoSuchElementException {
        if (!now.hasFolder(folder)) {
            throw new NoSuchElementException("there is no such folder");
        }
        history.prepare(now);
        return settled(now.row.moveTo(folder, place));
    }

    public int straighten(int folder) throws NoSuchElementException {
        if (!now.hasFolder(folder)) {
            throw new NoSuchElementException("there is no such folder");
        }
        history.prepare(now);
        return settled(now.row.moveToOrder(folder));
    }

    public int check(int swaps) throws IllegalArgumentException {
        if (swaps < 1 || swaps > MOST_SWAPS) {
            throw new IllegalArgumentException("swaps are 1 to 99");
        }
        history.prepare(now);
        return settled(now.swapNeighbours(swaps));
    }

    public int setEmbargo(int folder, int day) throws NoSuchElementException, IllegalArgumentException {
        if (!now.hasFolder(folder)) {
            throw new NoSuchElementException("there is no such folder");
        }
        if (day < 0 || day > LAST_DAY) {
            throw new IllegalArgumentException("a day is 0 to 999");
        }
        history.prepare(now);
        return settled(now.closeUntil(folder, day));
    }

    public int play(int length) throws IllegalArgumentException {
        if (length < 0 || length > buffer.count()) {
            throw new IllegalArgumentException("there are not so many bytes in the buffer");
        }
        int error = parser.readScript(length, script);
        buffer.clear();
        errorAt = parser.errorPlace();
        if (error != 0) {
            return TEXT_ERROR - error;
        }
        history.prepare(now);
        int done = 0;
        for (int order = 0; order < script.count(); order++) {
            if (counted(answerOf(order)) < 0) {
                break;
            }
            done++;
        }
        history.keep();
        return done;
    }

    /** Keeps what was prepared only now, since a refused call leaves no trace in the history. */
    private int settled(int answer) {
        if (answer >= 0) {
            history.keep();
        }
        return counted(answer);
    }

    private int counted(int answer) {
        lasting.raise(answer >= 0 ? DONE : REFUSED, 1);
        return answer;
    }

    /** Does an order of the script; one that would throw an exception as a call answers a negative number, too. */
    private int answerOf(int place) {
        Order order = script.order(place);
        if (order == null) {
            return NO_SUCH;
        }
        int first = script.firsts.get(place);
        int second = script.seconds.get(place);
        switch (order) {
            case SLIP: return now.handIn(first, now.marks.placeOf(second));
            case DROP: return now.takeAway(first);
            case RETURN: return now.bringBack(now.marks.placeOf(first));
            case DAY: return now.passDays(first, LAST_DAY);
            case MISFILE: return now.row.moveTo(now.marks.placeOf(first), second);
            case CHECK: return now.swapNeighbours(first);
            case UNTIL: return now.closeUntil(now.marks.placeOf(first), second);
            default: return NO_SUCH;
        }
    }

    // ---- texts, undo

    public int format() {
        formatted.clear();
        for (int place = 0; place < now.row.folders.count(); place++) {
            if (place > 0) {
                formatted.add(now.row.isWrong(place) ? '!' : ' ');
            }
            appendNumber(now.row.markAt(place));
        }
        formatted.add('|');
        for (int place = 0; place < now.trolley.count(); place++) {
            if (place > 0) {
                formatted.add(' ');
            }
            appendNumber(now.marks.get(now.trolley.get(place)));
        }
        return formatted.count();
    }

    private void appendNumber(int number) {
        for (int unit = 1000; unit > 0; unit /= 10) {
            if (number >= unit || unit == 1) {
                formatted.add('0' + number / unit % 10);
            }
        }
    }

    public int formattedByte(int index) {
        return formatted.get(index);
    }

    public int undoCount() {
        return history.count();
    }

    public int undo() {
        if (!history.takeBack(now)) {
            return NONE;
        }
        lasting.raise(UNDONE, 1);
        return history.count();
    }

    public void saveSnapshot() {
        snapshot.copyFrom(now);
        hasSnapshot = true;
    }

    public boolean restoreSnapshot() {
        if (!hasSnapshot) {
            return false;
        }
        now.copyFrom(snapshot);
        history.clear();
        return true;
    }

    /** Numbers one behind the other, in room that is made once; every index is looked at in here. */
    private static final class Line {
        private final int[] items;
        private int count = 0;

        Line(int room) {
            items = new int[room < 0 ? 0 : room];
        }

        int count() {
            return count;
        }

        int get(int place) {
            return place >= 0 && place < count ? items[place] : NONE;
        }

        void set(int place, int value) {
            if (place >= 0 && place < count) {
                items[place] = value;
            }
        }

        void raise(int place, int by) {
            if (place >= 0 && place < count) {
                items[place] += by;
            }
        }

        void add(int value) {
            if (count >= 0 && count < items.length) {
                items[count] = value;
                count++;
            }
        }

        void insert(int place, int value) {
            if (place < 0 || place > count || count >= items.length) {
                return;
            }
            for (int i = count; i > place; i--) {
                items[i] = items[i - 1];
            }
            items[place] = value;
            count++;
        }

        void removeAt(int place) {
            if (place < 0 || place >= count) {
                return;
            }
            count--;
            for (int i = place; i < count; i++) {
                items[i] = items[i + 1];
            }
        }

        int placeOf(int value) {
            for (int i = 0; i < count; i++) {
                if (items[i] == value) {
                    return i;
                }
            }
            return NONE;
        }

        int countOf(int value) {
            int many = 0;
            for (int i = 0; i < count; i++) {
                if (items[i] == value) {
                    many++;
                }
            }
            return many;
        }

        void clear() {
            count = 0;
        }

        void fillWithZeros(int many) {
            clear();
            for (int i = 0; i < many; i++) {
                add(0);
            }
        }

        void copyFrom(Line other) {
            count = Math.min(other.count, items.length);
            for (int i = 0; i < count; i++) {
                items[i] = other.items[i];
            }
        }
    }

    /** The slips that wait, in the order in which they came. */
    private static final class Slips {
        final Line readers = new Line(MOST_SLIPS);
        final Line folders = new Line(MOST_SLIPS);
        final Line dates = new Line(MOST_SLIPS);
        final Line tries = new Line(MOST_SLIPS);

        int count() {
            return readers.count();
        }

        boolean has(int place) {
            return place >= 0 && place < readers.count();
        }

        void add(int reader, int folder, int day) {
            readers.add(reader);
            folders.add(folder);
            dates.add(day);
            tries.add(0);
        }

        void removeAt(int place) {
            readers.removeAt(place);
            folders.removeAt(place);
            dates.removeAt(place);
            tries.removeAt(place);
        }

        int placeFor(int reader, int folder) {
            for (int place = 0; place < readers.count(); place++) {
                if (readers.get(place) == reader && folders.get(place) == folder) {
                    return place;
                }
            }
            return NONE;
        }

        void clear() {
            readers.clear();
            folders.clear();
            dates.clear();
            tries.clear();
        }

        void copyFrom(Slips other) {
            readers.copyFrom(other.readers);
            folders.copyFrom(other.folders);
            dates.copyFrom(other.dates);
            tries.copyFrom(other.tries);
        }
    }

    /** The row in which folders stand, and how they are looked for in it. */
    private static final class Row {
        final Line folders = new Line(MOST_FOLDERS);
        /** The places that the latest search by halving looked at. */
        final Line looked = new Line(MOST_FOLDERS);
        private final Line runs = new Line(MOST_FOLDERS);
        private final Line marks;

        Row(Line marks) {
            this.marks = marks;
        }

        int markAt(int place) {
            return marks.get(folders.get(place));
        }

        int halve(int mark) {
            looked.clear();
            int first = 0;
            int last = folders.count() - 1;
            for (int look = 0; look < MOST_FOLDERS && first <= last; look++) {
                int middle = (first + last) / 2;
                int there = marks.get(folders.get(middle));
                looked.add(middle);
                if (there == mark) {
                    return middle;
                }
                if (there > mark) {
                    last = middle - 1;
                } else {
                    first = middle + 1;
                }
            }
            return NONE;
        }

        /** Where a MARK belongs that the latest search has missed. */
        int placeBehindMiss(int mark) {
            int last = looked.get(looked.count() - 1);
            if (last == NONE) {
                return 0;
            }
            return marks.get(folders.get(last)) > mark ? last : last + 1;
        }

        int missedByHalving() {
            int missed = 0;
            for (int place = 0; place < folders.count(); place++) {
                if (halve(markAt(place)) == NONE) {
                    missed++;
                }
            }
            return missed;
        }

        /** Whether the folder at a place and the one ahead of it are a wrong pair. */
        boolean isWrong(int place) {
            return place > 0 && marks.get(folders.get(place)) < marks.get(folders.get(place - 1));
        }

        int wrongPairs() {
            int wrong = 0;
            for (int place = 1; place < folders.count(); place++) {
                if (isWrong(place)) {
                    wrong++;
                }
            }
            return wrong;
        }

        int pairsInWrongOrder() {
            int pairs = 0;
            for (int behind = 1; behind < folders.count(); behind++) {
                int mark = markAt(behind);
                for (int ahead = 0; ahead < behind; ahead++) {
                    if (mark < markAt(ahead)) {
                        pairs++;
                    }
                }
            }
            return pairs;
        }

        int longestRun() {
            int longest = 0;
            runs.clear();
            for (int place = 0; place < folders.count(); place++) {
                int ahead = 0;
                for (int other = 0; other < place; other++) {
                    if (markAt(other) < markAt(place)) {
                        ahead = Math.max(ahead, runs.get(other));
                    }
                }
                runs.add(ahead + 1);
                longest = Math.max(longest, ahead + 1);
            }
            return longest;
        }

        int placeInOrder(int mark) {
            int smaller = 0;
            for (int place = 0; place < folders.count(); place++) {
                if (markAt(place) < mark) {
                    smaller++;
                }
            }
            return smaller;
        }

        int farthestFromOrder() {
            int farthest = 0;
            int answer = NONE;
            for (int place = 0; place < folders.count(); place++) {
                int folder = folders.get(place);
                int distance = Math.abs(place - placeInOrder(markAt(place)));
                if (distance > farthest || distance > 0 && distance == farthest && folder < answer) {
                    farthest = distance;
                    answer = folder;
                }
            }
            return answer;
        }

        int moveTo(int folder, int place) {
            int before = folders.placeOf(folder);
            if (before == NONE) {
                return -2;
            }
            if (place < 0 || place >= folders.count()) {
                return -3;
            }
            folders.removeAt(before);
            folders.insert(place, folder);
            return before;
        }

        int moveToOrder(int folder) {
            int before = folders.placeOf(folder);
            if (before == NONE) {
                return -2;
            }
            int place = placeInOrder(marks.get(folder));
            folders.removeAt(before);
            folders.insert(place, folder);
            return place;
        }

        int swapWrongPairs(int most) {
            for (int swapped = 0; swapped < most; swapped++) {
                int place = firstWrong();
                if (place == NONE) {
                    return swapped;
                }
                int behind = folders.get(place);
                folders.set(place, folders.get(place - 1));
                folders.set(place - 1, behind);
            }
            return most;
        }

        private int firstWrong() {
            for (int place = 1; place < folders.count(); place++) {
                if (isWrong(place)) {
                    return place;
                }
            }
            return NONE;
        }
    }

    /** Everything that undoing restores; its operations change nothing when they answer an error code. */
    private static final class Stacks {
        int day;
        int period;
        int hands;
        int limit;
        final Line marks = new Line(MOST_FOLDERS);
        final Line embargoes = new Line(MOST_FOLDERS);
        final Line states = new Line(MOST_FOLDERS);
        final Line holders = new Line(MOST_FOLDERS);
        final Line lent = new Line(MOST_FOLDERS);
        final Line having = new Line(MOST_READERS);
        final Line received = new Line(MOST_READERS);
        final Row row = new Row(marks);
        final Line trolley = new Line(MOST_FOLDERS);
        final Slips slips = new Slips();
        final Line accounts = new Line(ACCOUNTS);

        void begin(int period, int hands, int readers, int limit) {
            day = 0;
            this.period = period;
            this.hands = hands;
            this.limit = limit;
            marks.clear();
            embargoes.clear();
            states.clear();
            holders.clear();
            lent.clear();
            having.fillWithZeros(readers);
            received.fillWithZeros(readers);
            row.folders.clear();
            trolley.clear();
            slips.clear();
            accounts.fillWithZeros(ACCOUNTS);
        }

        void addFolder(int mark, int embargo) {
            row.folders.add(marks.count());
            marks.add(mark);
            embargoes.add(embargo);
            states.add(IN_ROW);
            holders.add(NONE);
            lent.add(0);
        }

        void copyFrom(Stacks other) {
            day = other.day;
            period = other.period;
            hands = other.hands;
            limit = other.limit;
            marks.copyFrom(other.marks);
            embargoes.copyFrom(other.embargoes);
            states.copyFrom(other.states);
            holders.copyFrom(other.holders);
            lent.copyFrom(other.lent);
            having.copyFrom(other.having);
            received.copyFrom(other.received);
            row.folders.copyFrom(other.row.folders);
            trolley.copyFrom(other.trolley);
            slips.copyFrom(other.slips);
            accounts.copyFrom(other.accounts);
        }

        boolean hasFolder(int folder) {
            return folder >= 0 && folder < marks.count();
        }

        boolean hasReader(int reader) {
            return reader >= 0 && reader < having.count();
        }

        boolean isClosed(int folder) {
            return day < embargoes.get(folder);
        }

        int whereabouts(int folder) {
            switch (states.get(folder)) {
                case IN_ROW: return row.folders.placeOf(folder);
                case ON_TROLLEY: return trolley.placeOf(folder);
                default: return holders.get(folder);
            }
        }

        boolean isRefilingDay() {
            return period > 0 && day % period == 0;
        }

        int daysToRefiling() {
            return period > 0 ? period - day % period : NONE;
        }

        int idleness(int place) {
            int folder = slips.folders.get(place);
            int state = states.get(folder);
            if (state == WITH_READER) {
                return IDLE_LENT;
            }
            if (state == ON_TROLLEY) {
                return IDLE_TROLLEY;
            }
            if (isClosed(folder)) {
                return IDLE_CLOSED;
            }
            return having.get(slips.readers.get(place)) >= limit ? IDLE_LIMIT : 0;
        }

        int foldersAstray() {
            int astray = 0;
            for (int folder = 0; folder < marks.count(); folder++) {
                int times = row.folders.countOf(folder) + trolley.countOf(folder);
                if (holders.get(folder) != NONE) {
                    times++;
                }
                if (times != 1) {
                    astray++;
                }
            }
            return astray;
        }

        int readersAboveLimit() {
            int above = 0;
            for (int reader = 0; reader < having.count(); reader++) {
                if (holders.countOf(reader) > limit) {
                    above++;
                }
            }
            return above;
        }

        int slipsForOwnFolders() {
            int own = 0;
            for (int place = 0; place < slips.count(); place++) {
                if (holders.get(slips.folders.get(place)) == slips.readers.get(place)) {
                    own++;
                }
            }
            return own;
        }

        int refusal(int reader, int folder) {
            if (!hasReader(reader) || !hasFolder(folder)) {
                return NO_SUCH;
            }
            if (holders.get(folder) == reader) {
                return -2;
            }
            if (slips.placeFor(reader, folder) != NONE) {
                return -3;
            }
            return slips.count() >= MOST_SLIPS ? -4 : 0;
        }

        int handIn(int reader, int folder) {
            int code = refusal(reader, folder);
            if (code != 0) {
                return code;
            }
            slips.add(reader, folder, day);
            accounts.raise(HANDED_IN, 1);
            return slips.count() - 1;
        }

        int takeAway(int place) {
            if (!slips.has(place)) {
                return -2;
            }
            slips.removeAt(place);
            return slips.count();
        }

        int bringBack(int folder) {
            if (!hasFolder(folder)) {
                return NO_SUCH;
            }
            int reader = holders.get(folder);
            if (reader == NONE) {
                return -2;
            }
            holders.set(folder, NONE);
            having.raise(reader, -1);
            states.set(folder, ON_TROLLEY);
            trolley.add(folder);
            return reader;
        }

        int closeUntil(int folder, int until) {
            if (!hasFolder(folder)) {
                return NO_SUCH;
            }
            int before = embargoes.get(folder);
            embargoes.set(folder, until);
            return before;
        }

        int swapNeighbours(int most) {
            int swapped = row.swapWrongPairs(most);
            accounts.raise(SWAPPED, swapped);
            return swapped;
        }

        int passDays(int many, int lastDay) {
            if (day + many > lastDay) {
                return -2;
            }
            int served = 0;
            for (int i = 0; i < many; i++) {
                served += nextDay();
            }
            return served;
        }

        int nextDay() {
            day++;
            if (isRefilingDay()) {
                refileTrolley();
            }
            int served = 0;
            int searches = 0;
            int place = 0;
            for (int left = slips.count(); left > 0 && searches < hands; left--) {
                if (idleness(place) != 0) {
                    place++;
                    continue;
                }
                searches++;
                if (isFoundFor(place)) {
                    // the next slip moves up to this place
                    serve(place);
                    served++;
                } else {
                    place++;
                }
            }
            return served;
        }

        private void refileTrolley() {
            for (int i = 0; i < trolley.count(); i++) {
                int folder = trolley.get(i);
                int mark = marks.get(folder);
                row.halve(mark);
                accounts.raise(LOOKED_AT, row.looked.count());
                row.folders.insert(row.placeBehindMiss(mark), folder);
                states.set(folder, IN_ROW);
            }
            accounts.raise(REFILED, trolley.count());
            trolley.clear();
        }

        private boolean isFoundFor(int place) {
            int folder = slips.folders.get(place);
            if (slips.tries.get(place) >= 2) {
                accounts.raise(WHOLE_ROWS, 1);
                return row.folders.placeOf(folder) != NONE;
            }
            boolean found = row.halve(marks.get(folder)) != NONE;
            accounts.raise(LOOKED_AT, row.looked.count());
            if (!found) {
                slips.tries.raise(place, 1);
                accounts.raise(MISSED, 1);
            }
            return found;
        }

        private void serve(int place) {
            int folder = slips.folders.get(place);
            int reader = slips.readers.get(place);
            row.folders.removeAt(row.folders.placeOf(folder));
            states.set(folder, WITH_READER);
            holders.set(folder, reader);
            lent.raise(folder, 1);
            having.raise(reader, 1);
            received.raise(reader, 1);
            accounts.raise(LENT, 1);
            accounts.raise(WAITED, day - slips.dates.get(place));
            slips.removeAt(place);
        }
    }

    /** What the operations that can be undone have replaced. */
    private static final class History {
        /** One more than can be undone: what is prepared overwrites nothing until it is kept. */
        private static final int SLOTS = MOST_UNDO + 1;
        private final Stacks[] slots = new Stacks[SLOTS];
        private int first = 0;
        private int count = 0;

        History() {
            for (int i = 0; i < slots.length; i++) {
                slots[i] = new Stacks();
            }
        }

        int count() {
            return count;
        }

        void clear() {
            count = 0;
        }

        void prepare(Stacks now) {
            Stacks slot = slotBehindKept();
            if (slot != null) {
                slot.copyFrom(now);
            }
        }

        void keep() {
            if (count < MOST_UNDO) {
                count++;
            } else {
                first = (first + 1) % SLOTS;
            }
        }

        boolean takeBack(Stacks now) {
            if (count == 0) {
                return false;
            }
            count--;
            Stacks slot = slotBehindKept();
            if (slot != null) {
                now.copyFrom(slot);
            }
            return true;
        }

        private Stacks slotBehindKept() {
            int place = (first + count) % SLOTS;
            return place >= 0 && place < slots.length ? slots[place] : null;
        }
    }

    /** The orders of a script, with the numbers that each takes. */
    private enum Order {
        SLIP("slip", 0, MOST_READERS - 1, MOST_MARK),
        DROP("drop", 0, MOST_SLIPS - 1, NONE),
        RETURN("return", 0, MOST_MARK, NONE),
        DAY("day", 1, MOST_DAYS, NONE),
        MISFILE("misfile", 0, MOST_MARK, MOST_FOLDERS - 1),
        CHECK("check", 1, MOST_SWAPS, NONE),
        UNTIL("until", 0, MOST_MARK, LAST_DAY);

        private static final Order[] ALL = values();

        private final String word;
        private final int least;
        private final int most;
        /** The greatest second number, NONE if the order takes just one. */
        private final int mostSecond;

        Order(String word, int least, int most, int mostSecond) {
            this.word = word;
            this.least = least;
            this.most = most;
            this.mostSecond = mostSecond;
        }
    }

    /** The orders of a script that has been read. */
    private static final class Script {
        private final Order[] orders = new Order[MOST_ORDERS];
        final Line firsts = new Line(MOST_ORDERS);
        final Line seconds = new Line(MOST_ORDERS);

        int count() {
            return firsts.count();
        }

        Order order(int place) {
            return place >= 0 && place < orders.length ? orders[place] : null;
        }

        void clear() {
            firsts.clear();
            seconds.clear();
        }

        void add(Order order, int first, int second) {
            int place = firsts.count();
            if (place < 0 || place >= orders.length) {
                return;
            }
            orders[place] = order;
            firsts.add(first);
            seconds.add(second);
        }
    }

    /** Cuts the first bytes of the buffer into tokens. */
    private static final class Tokens {
        static final int END = 0;
        static final int WORD = 1;
        static final int NUMBER = 2;
        static final int SEMICOLON = 3;
        static final int INVALID = 4;
        /** Above every range; digits behind it can't bring a number back into one. */
        private static final int TOO_GREAT = 1000000;

        private final Line bytes;
        private int length = 0;
        private int position = 0;
        private int start = 0;
        private int kind = END;
        private int value = 0;

        Tokens(Line bytes) {
            this.bytes = bytes;
        }

        void begin(int length) {
            this.length = length;
            position = 0;
        }

        int start() {
            return start;
        }

        int kind() {
            return kind;
        }

        int value() {
            return value;
        }

        void next() {
            while (position < length && isBlank(bytes.get(position))) {
                position++;
            }
            start = position;
            if (position >= length) {
                kind = END;
                return;
            }
            int sign = bytes.get(position);
            if (isLetter(sign)) {
                readWord();
            } else if (isDigit(sign)) {
                readNumber();
            } else {
                kind = sign == ';' ? SEMICOLON : INVALID;
                position++;
            }
        }

        boolean isWord(String word) {
            if (kind != WORD || position - start != word.length()) {
                return false;
            }
            for (int i = 0; i < word.length(); i++) {
                if (bytes.get(start + i) != word.charAt(i)) {
                    return false;
                }
            }
            return true;
        }

        private void readWord() {
            kind = WORD;
            while (position < length && isLetter(bytes.get(position))) {
                position++;
            }
        }

        private void readNumber() {
            kind = NUMBER;
            value = 0;
            while (position < length && isDigit(bytes.get(position))) {
                value = Math.min(TOO_GREAT, value * 10 + bytes.get(position) - '0');
                position++;
            }
        }

        private static boolean isBlank(int sign) {
            return sign == 32 || sign == 10;
        }

        private static boolean isLetter(int sign) {
            return sign >= 'a' && sign <= 'z';
        }

        private static boolean isDigit(int sign) {
            return sign >= '0' && sign <= '9';
        }
    }

    /** Reads texts and scripts; the first error along the text ends the reading. */
    private static final class Parser {
        private final Tokens tokens;
        private int error = 0;
        private int errorAt = NONE;

        Parser(Line bytes) {
            tokens = new Tokens(bytes);
        }

        int errorPlace() {
            return errorAt;
        }

        /** Answers the error code, 0 if there is no error. */
        int readArchive(int length, Stacks into) {
            begin(length);
            if (!readHead(into)) {
                return error;
            }
            tokens.next();
            for (int folders = 0; folders <= MOST_FOLDERS; folders++) {
                if (folders > 0 && tokens.kind() == Tokens.END) {
                    return 0;
                }
                if (!tokens.isWord("folder")) {
                    fail(BAD_TOKEN);
                    return error;
                }
                if (folders == MOST_FOLDERS) {
                    fail(TOO_MANY);
                    return error;
                }
                if (!readFolder(into)) {
                    return error;
                }
                tokens.next();
            }
            return error;
        }

        /** Answers the error code, 0 if there is no error. */
        int readScript(int length, Script into) {
            begin(length);
            into.clear();
            tokens.next();
            for (int orders = 0; orders <= MOST_ORDERS; orders++) {
                if (tokens.kind() == Tokens.END) {
                    return 0;
                }
                Order order = readOrder();
                if (order == null) {
                    fail(BAD_TOKEN);
                    return error;
                }
                if (orders == MOST_ORDERS) {
                    fail(TOO_MANY);
                    return error;
                }
                if (!readNumbers(order, into)) {
                    return error;
                }
                tokens.next();
            }
            return error;
        }

        private void begin(int length) {
            error = 0;
            errorAt = NONE;
            tokens.begin(length);
        }

        private boolean readHead(Stacks into) {
            tokens.next();
            if (!tokens.isWord("archive")) {
                return fail(BAD_TOKEN);
            }
            if (!readNumber(1, MOST_PERIOD)) {
                return false;
            }
            int period = tokens.value();
            if (!readNumber(1, MOST_HANDS)) {
                return false;
            }
            int hands = tokens.value();
            if (!readNumber(1, MOST_READERS)) {
                return false;
            }
            int readers = tokens.value();
            if (!readNumber(1, MOST_LIMIT)) {
                return false;
            }
            into.begin(period, hands, readers, tokens.value());
            tokens.next();
            return isEnded();
        }

        private boolean readFolder(Stacks into) {
            if (!readNumber(0, MOST_MARK)) {
                return false;
            }
            int mark = tokens.value();
            if (into.marks.placeOf(mark) != NONE) {
                return fail(MARK_TWICE);
            }
            int embargo = 0;
            tokens.next();
            if (tokens.isWord("until")) {
                if (!readNumber(0, LAST_DAY)) {
                    return false;
                }
                embargo = tokens.value();
                tokens.next();
            }
            into.addFolder(mark, embargo);
            return isEnded();
        }

        private Order readOrder() {
            for (Order order : Order.ALL) {
                if (order != null && tokens.isWord(order.word)) {
                    return order;
                }
            }
            return null;
        }

        private boolean readNumbers(Order order, Script into) {
            if (!readNumber(order.least, order.most)) {
                return false;
            }
            int first = tokens.value();
            int second = NONE;
            if (order.mostSecond != NONE) {
                if (!readNumber(0, order.mostSecond)) {
                    return false;
                }
                second = tokens.value();
            }
            into.add(order, first, second);
            tokens.next();
            return isEnded();
        }

        private boolean readNumber(int least, int most) {
            tokens.next();
            if (tokens.kind() != Tokens.NUMBER) {
                return fail(BAD_TOKEN);
            }
            if (tokens.value() < least || tokens.value() > most) {
                return fail(OUT_OF_RANGE);
            }
            return true;
        }

        private boolean isEnded() {
            return tokens.kind() == Tokens.SEMICOLON || fail(BAD_TOKEN);
        }

        private boolean fail(int code) {
            error = code;
            errorAt = tokens.start();
            return false;
        }
    }
}
