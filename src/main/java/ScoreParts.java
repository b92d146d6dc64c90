import java.util.Arrays;
import java.util.NoSuchElementException;

/** The bars of a score and what stands in the parts of its players. */
public final class ScoreParts {
    public static final int NONE = -1;

    private static final int MAX_BARS = 150;
    private static final int MAX_BEATS = 12;
    private static final int MAX_CUTS = 10;
    private static final int MAX_MARKS = 20;
    private static final int MAX_LETTER = 40;
    private static final int MAX_PARTS = 6;
    private static final int MAX_INSERT = 20;
    private static final int MAX_UNDO = 10;
    private static final int MAX_INPUT = 800;
    private static final int FEED_LENGTH = 20;
    // A label is 1000 * number + suffix; calls that answer two numbers in one join them in the same way.
    private static final int THOUSAND = 1000;
    // More than there can be: each bar of the score and each noted one is an erratum at most.
    private static final int ALL_ERRATA = 2 * MAX_BARS;

    private static final int REST = 0;
    private static final int NOTES = 1;
    private static final int CUE = 2;

    private final TextReader reader = new TextReader();
    private final View view = new View();
    private final Score score = view.score;
    private final Proofreader proofreader = new Proofreader();
    private final History history = new History();
    private final PartWriter writer = new PartWriter();
    private int nextId = 0;

    public ScoreParts() {
    }

    // ---- input

    public int feed(int a, int b, int c, int d, int e) throws IllegalStateException {
        if (reader.inputLength + FEED_LENGTH > MAX_INPUT) {
            throw new IllegalStateException();
        }
        reader.appendBytes(a);
        reader.appendBytes(b);
        reader.appendBytes(c);
        reader.appendBytes(d);
        reader.appendBytes(e);
        return reader.inputLength;
    }

    public int load(int length) throws IllegalArgumentException, IllegalStateException {
        if (length < 0 || length > reader.inputLength) {
            throw new IllegalArgumentException();
        }
        if (!reader.readScore(length)) {
            throw new IllegalStateException();
        }
        score.copyFrom(reader.draft);
        nextId = score.barCount;
        history.forget();
        view.refresh();
        return score.barCount;
    }

    public int errorCode() {
        return reader.code;
    }

    public int errorPosition() {
        return reader.position;
    }

    // ---- bars

    public int bars() {
        return score.barCount;
    }

    public int barAt(int place) throws NoSuchElementException {
        if (place < 0 || place >= score.barCount) {
            throw new NoSuchElementException();
        }
        return score.ids[place];
    }

    public int bar(int bar, int what) throws NoSuchElementException, IllegalArgumentException {
        int place = requirePlace(bar);
        switch (what) {
            case 0:
                return place;
            case 1:
                return view.labels[place];
            case 2:
                return score.beatCounts[place];
            case 3:
                return score.inserted[place];
            case 4:
                return score.texts[place];
            case 5:
                return score.doubles[place];
            case 6:
                return view.isPlayed(place) ? 1 : 0;
            case 7:
                return view.letters[place];
            case 8:
                return view.sitting[place];
            default:
                throw new IllegalArgumentException();
        }
    }

    public int labelled(int label) throws NoSuchElementException {
        for (int place = 0; place < score.barCount; place++) {
            if (view.labels[place] == label) {
                return score.ids[place];
            }
        }
        throw new NoSuchElementException();
    }

    public int played() {
        return view.playedCount;
    }

    public int beats() {
        return view.sumBeats(0, view.playedCount);
    }

    // ---- cuts

    public int cuts() {
        int set = 0;
        for (int cut = 0; cut < MAX_CUTS; cut++) {
            if (score.hasCut(cut)) {
                set |= 1 << cut;
            }
        }
        return set;
    }

    public int cut(int cut, boolean last) throws NoSuchElementException {
        requireCut(cut);
        return last ? score.cutLasts[cut] : score.cutFirsts[cut];
    }

    public int hiddenBy(int cut) throws NoSuchElementException {
        requireCut(cut);
        return view.countHiddenBy(cut);
    }

    // ---- letters

    public int marks() {
        return score.markCount;
    }

    public int mark(int letter, int what) throws NoSuchElementException, IllegalArgumentException {
        requireMark(letter);
        switch (what) {
            case 0:
                return score.markedBars[letter];
            case 1:
                return score.idAt(view.placeShown(letter));
            case 2:
                return view.placeOfLetter(letter) == NONE ? 0 : 1;
            default:
                throw new IllegalArgumentException();
        }
    }

    public int from(int letter, int bars) throws NoSuchElementException {
        int place = view.placeOfLetter(letter);
        if (place == NONE) {
            throw new NoSuchElementException();
        }
        long index = (long) view.playedBefore[place] + bars;
        if (index < 0 || index >= view.playedCount) {
            throw new NoSuchElementException();
        }
        return score.ids[view.playedPlaces[(int) index]];
    }

    public int called(int bar) throws NoSuchElementException, IllegalStateException {
        int index = requirePlayedIndex(bar);
        for (int before = index; before >= 0; before--) {
            int letter = view.letters[view.playedPlaces[before]];
            if (letter != 0) {
                return THOUSAND * letter + (index - before);
            }
        }
        return index;
    }

    // ---- parts

    public int parts() {
        return score.partCount;
    }

    public int content(int part, int bar) throws NoSuchElementException {
        requirePart(part);
        return score.contentAt(part, requirePlace(bar));
    }

    public int reason(int bar) throws NoSuchElementException, IllegalStateException {
        return view.reasons[view.playedPlaces[requirePlayedIndex(bar)]];
    }

    public int items(int part) throws NoSuchElementException {
        requirePart(part);
        return view.countItems(part, view.playedCount);
    }

    public int item(int part, int item, int what)
            throws NoSuchElementException, IllegalArgumentException, IndexOutOfBoundsException {
        requirePart(part);
        if (what < 0 || what > 3) {
            throw new IllegalArgumentException();
        }
        int start = view.startOfItem(part, item);
        if (start == NONE) {
            throw new IndexOutOfBoundsException();
        }
        int end = view.endOfItem(part, start);
        switch (what) {
            case 0:
                return score.ids[view.playedPlaces[start]];
            case 1:
                return end - start;
            case 2:
                return score.contentAt(part, view.playedPlaces[start]);
            default:
                return view.sumBeats(start, end);
        }
    }

    public int itemOf(int part, int bar) throws NoSuchElementException, IllegalStateException {
        requirePart(part);
        int index = requirePlayedIndex(bar);
        int item = view.countItems(part, index + 1) - 1;
        return THOUSAND * item + (index - view.startOfItem(part, item));
    }

    public int longestRest(int part) throws NoSuchElementException {
        requirePart(part);
        return view.longestRestOf(part);
    }

    public int waiting(int part, int bar) throws NoSuchElementException, IllegalStateException {
        requirePart(part);
        int index = requirePlayedIndex(bar);
        for (int next = index; next < view.playedCount; next++) {
            if (score.contentAt(part, view.playedPlaces[next]) == NOTES) {
                return next - index;
            }
        }
        return NONE;
    }

    public int sounding(int bar) throws NoSuchElementException {
        int place = requirePlace(bar);
        int set = 0;
        for (int part = 0; part < score.partCount; part++) {
            if (score.contentAt(part, place) == NOTES) {
                set |= 1 << part;
            }
        }
        return set;
    }

    // ---- prints

    public boolean isPrinted(int part) throws NoSuchElementException {
        requirePart(part);
        return score.prints[part] != null;
    }

    public int errata(int part) throws NoSuchElementException, IllegalStateException {
        requirePart(part);
        return proofreader.walk(view, part, requirePrint(part), ALL_ERRATA);
    }

    public int erratum(int part, int erratum, int what) throws NoSuchElementException, IllegalArgumentException,
            IllegalStateException, IndexOutOfBoundsException {
        requirePart(part);
        if (what < 0 || what > 2) {
            throw new IllegalArgumentException();
        }
        Noted print = requirePrint(part);
        if (erratum < 0 || erratum >= proofreader.walk(view, part, print, erratum)) {
            throw new IndexOutOfBoundsException();
        }
        switch (what) {
            case 0:
                return proofreader.id;
            case 1:
                return proofreader.kind;
            default:
                return proofreader.noted;
        }
    }

    public int misled(int letter) throws IllegalArgumentException {
        if (letter < 1 || letter > MAX_LETTER) {
            throw new IllegalArgumentException();
        }
        int now = score.idAt(view.placeOfLetter(letter));
        int set = 0;
        for (int part = 0; part < score.partCount; part++) {
            Noted print = score.prints[part];
            if (print != null && print.barWithLetter(letter) != now) {
                set |= 1 << part;
            }
        }
        return set;
    }

    // ---- changes

    public int insert(int after, int count, int beats)
            throws NoSuchElementException, IllegalArgumentException, IllegalStateException {
        int place = after == NONE ? 0 : requirePlace(after) + 1;
        if (count < 1 || count > MAX_INSERT || beats < 1 || beats > MAX_BEATS) {
            throw new IllegalArgumentException();
        }
        if (score.barCount + count > MAX_BARS) {
            throw new IllegalStateException();
        }
        history.keep(score);
        int first = nextId;
        score.addBars(place, count, first, beats, 1);
        nextId = first + count;
        view.refresh();
        return first;
    }

    public int erase(int bar) throws NoSuchElementException, IllegalStateException {
        int place = requirePlace(bar);
        if (score.inserted[place] == 0 || view.sitting[place] != 0 || score.isEndOfCut(bar)) {
            throw new IllegalStateException();
        }
        history.keep(score);
        score.removeBar(place);
        view.refresh();
        return score.barCount;
    }

    public int makeCut(int first, int last)
            throws NoSuchElementException, IllegalArgumentException, IllegalStateException {
        int firstPlace = requirePlace(first);
        int lastPlace = requirePlace(last);
        if (firstPlace > lastPlace) {
            throw new IllegalArgumentException();
        }
        int cut = score.firstFreeCut();
        if (cut == NONE) {
            throw new IllegalStateException();
        }
        history.keep(score);
        score.setCut(cut, first, last);
        view.refresh();
        return cut;
    }

    public int openCut(int cut) throws NoSuchElementException {
        requireCut(cut);
        history.keep(score);
        score.setCut(cut, NONE, NONE);
        view.refresh();
        return view.playedCount;
    }

    public int putMark(int letter, int bar)
            throws NoSuchElementException, IllegalArgumentException, IllegalStateException {
        int place = requirePlace(bar);
        if (letter < 1 || letter > MAX_LETTER) {
            throw new IllegalArgumentException();
        }
        int sitting = view.sitting[place];
        boolean isTaken = sitting != 0 && sitting != letter;
        boolean isTooMany = score.markCount >= MAX_MARKS && !score.hasMark(letter);
        if (isTaken || isTooMany) {
            throw new IllegalStateException();
        }
        history.keep(score);
        int previous = score.markedBars[letter];
        score.setMark(letter, bar);
        view.refresh();
        return previous;
    }

    public int removeMark(int letter) throws NoSuchElementException {
        requireMark(letter);
        history.keep(score);
        score.setMark(letter, NONE);
        view.refresh();
        return score.markCount;
    }

    public int reletter() {
        history.keep(score);
        Arrays.fill(score.markedBars, NONE);
        int letter = 0;
        int others = 0;
        for (int place = 0; place < score.barCount; place++) {
            if (view.sitting[place] != 0 && letter < MAX_LETTER) {
                letter++;
                score.markedBars[letter] = score.ids[place];
                others += view.sitting[place] == letter ? 0 : 1;
            }
        }
        view.refresh();
        return others;
    }

    public int renumber() {
        history.keep(score);
        int others = 0;
        for (int place = 0; place < score.barCount; place++) {
            score.inserted[place] = 0;
            others += view.labels[place] == THOUSAND * (place + 1) ? 0 : 1;
        }
        view.refresh();
        return others;
    }

    public int setBar(int bar, int what, int value) throws NoSuchElementException, IllegalArgumentException {
        int place = requirePlace(bar);
        boolean isBeats = what == 2 && value >= 1 && value <= MAX_BEATS;
        boolean isFlag = (what == 4 || what == 5) && (value == 0 || value == 1);
        if (!isBeats && !isFlag) {
            throw new IllegalArgumentException();
        }
        history.keep(score);
        int[] row = isBeats ? score.beatCounts : what == 4 ? score.texts : score.doubles;
        int previous = row[place];
        row[place] = value;
        view.refresh();
        return previous;
    }

    public int setContent(int part, int bar, int value) throws NoSuchElementException, IllegalArgumentException {
        requirePart(part);
        int place = requirePlace(bar);
        if (value < REST || value > CUE) {
            throw new IllegalArgumentException();
        }
        history.keep(score);
        int previous = score.contentAt(part, place);
        score.putContent(part, place, value);
        return previous;
    }

    public int print(int part) throws NoSuchElementException {
        requirePart(part);
        history.keep(score);
        score.prints[part] = new Noted(view, part);
        return view.countItems(part, view.playedCount);
    }

    // ---- undo

    public int undo() throws IllegalStateException {
        if (history.count == 0) {
            throw new IllegalStateException();
        }
        history.bringBack(score);
        view.refresh();
        return history.count;
    }

    public int undoCount() {
        return history.count;
    }

    // ---- output

    public int writePart(int part) throws NoSuchElementException {
        requirePart(part);
        writer.writeItems(view, part);
        return writer.length;
    }

    public int outputByte(int index) throws IndexOutOfBoundsException {
        if (index < 0 || index >= writer.length) {
            throw new IndexOutOfBoundsException();
        }
        return writer.bytes[index];
    }

    // ---- what calls require of their arguments

    private int requirePlace(int bar) {
        int place = score.placeOf(bar);
        if (place == NONE) {
            throw new NoSuchElementException();
        }
        return place;
    }

    private int requirePlayedIndex(int bar) {
        int place = requirePlace(bar);
        if (!view.isPlayed(place)) {
            throw new IllegalStateException();
        }
        return view.playedBefore[place];
    }

    private void requireCut(int cut) {
        if (!score.hasCut(cut)) {
            throw new NoSuchElementException();
        }
    }

    private void requireMark(int letter) {
        if (!score.hasMark(letter)) {
            throw new NoSuchElementException();
        }
    }

    private void requirePart(int part) {
        if (part < 0 || part >= score.partCount) {
            throw new NoSuchElementException();
        }
    }

    private Noted requirePrint(int part) {
        Noted print = score.prints[part];
        if (print == null) {
            throw new IllegalStateException();
        }
        return print;
    }

    /** All that a change changes and an undo brings back. Bars stand in rows, by their places. */
    private static final class Score {
        int barCount;
        int partCount;
        int markCount;
        final int[] ids = new int[MAX_BARS];
        final int[] beatCounts = new int[MAX_BARS];
        final int[] inserted = new int[MAX_BARS];
        final int[] texts = new int[MAX_BARS];
        final int[] doubles = new int[MAX_BARS];
        final int[] contents = new int[MAX_PARTS * MAX_BARS];
        final int[] markedBars = new int[MAX_LETTER + 1];
        final int[] cutFirsts = new int[MAX_CUTS];
        final int[] cutLasts = new int[MAX_CUTS];
        final Noted[] prints = new Noted[MAX_PARTS];

        Score() {
            clear();
        }

        void clear() {
            barCount = 0;
            partCount = 0;
            markCount = 0;
            Arrays.fill(markedBars, NONE);
            Arrays.fill(cutFirsts, NONE);
            Arrays.fill(cutLasts, NONE);
            for (int part = 0; part < MAX_PARTS; part++) {
                prints[part] = null;
            }
        }

        void copyFrom(Score other) {
            barCount = other.barCount;
            partCount = other.partCount;
            markCount = other.markCount;
            System.arraycopy(other.ids, 0, ids, 0, MAX_BARS);
            System.arraycopy(other.beatCounts, 0, beatCounts, 0, MAX_BARS);
            System.arraycopy(other.inserted, 0, inserted, 0, MAX_BARS);
            System.arraycopy(other.texts, 0, texts, 0, MAX_BARS);
            System.arraycopy(other.doubles, 0, doubles, 0, MAX_BARS);
            System.arraycopy(other.contents, 0, contents, 0, MAX_PARTS * MAX_BARS);
            System.arraycopy(other.markedBars, 0, markedBars, 0, MAX_LETTER + 1);
            System.arraycopy(other.cutFirsts, 0, cutFirsts, 0, MAX_CUTS);
            System.arraycopy(other.cutLasts, 0, cutLasts, 0, MAX_CUTS);
            // A print is never changed once it is made, so that scores may share it.
            for (int part = 0; part < MAX_PARTS; part++) {
                prints[part] = other.prints[part];
            }
        }

        int placeOf(int bar) {
            for (int place = 0; place < barCount; place++) {
                if (ids[place] == bar) {
                    return place;
                }
            }
            return NONE;
        }

        int idAt(int place) {
            return place >= 0 && place < barCount ? ids[place] : NONE;
        }

        void addBars(int at, int count, int firstId, int beats, int asInserted) {
            moveBars(at, at + count);
            for (int offset = 0; offset < count; offset++) {
                int place = at + offset;
                ids[place] = firstId + offset;
                beatCounts[place] = beats;
                inserted[place] = asInserted;
                texts[place] = 0;
                doubles[place] = 0;
                for (int part = 0; part < MAX_PARTS; part++) {
                    putContent(part, place, REST);
                }
            }
            barCount += count;
        }

        void removeBar(int place) {
            moveBars(place + 1, place);
            barCount--;
        }

        private void moveBars(int start, int target) {
            int count = barCount - start;
            if (count <= 0) {
                return;
            }
            System.arraycopy(ids, start, ids, target, count);
            System.arraycopy(beatCounts, start, beatCounts, target, count);
            System.arraycopy(inserted, start, inserted, target, count);
            System.arraycopy(texts, start, texts, target, count);
            System.arraycopy(doubles, start, doubles, target, count);
            for (int part = 0; part < MAX_PARTS; part++) {
                int row = part * MAX_BARS;
                System.arraycopy(contents, row + start, contents, row + target, count);
            }
        }

        int contentAt(int part, int place) {
            return contents[part * MAX_BARS + place];
        }

        void putContent(int part, int place, int value) {
            contents[part * MAX_BARS + place] = value;
        }

        boolean hasCut(int cut) {
            return cut >= 0 && cut < MAX_CUTS && cutFirsts[cut] != NONE;
        }

        int firstFreeCut() {
            for (int cut = 0; cut < MAX_CUTS; cut++) {
                if (!hasCut(cut)) {
                    return cut;
                }
            }
            return NONE;
        }

        void setCut(int cut, int first, int last) {
            cutFirsts[cut] = first;
            cutLasts[cut] = last;
        }

        boolean isEndOfCut(int bar) {
            for (int cut = 0; cut < MAX_CUTS; cut++) {
                if (hasCut(cut) && (cutFirsts[cut] == bar || cutLasts[cut] == bar)) {
                    return true;
                }
            }
            return false;
        }

        boolean hasMark(int letter) {
            return letter >= 1 && letter <= MAX_LETTER && markedBars[letter] != NONE;
        }

        void setMark(int letter, int bar) {
            int before = hasMark(letter) ? 1 : 0;
            markedBars[letter] = bar;
            markCount += (hasMark(letter) ? 1 : 0) - before;
        }
    }

    /** What follows from a score; its rows stand anew after each change. */
    private static final class View {
        final Score score = new Score();
        int playedCount = 0;
        final int[] playedPlaces = new int[MAX_BARS];
        // These rows go by places. At a played bar, playedBefore is its index among the played bars.
        final int[] playedBefore = new int[MAX_BARS];
        final int[] labels = new int[MAX_BARS];
        final int[] covers = new int[MAX_BARS];
        final int[] sitting = new int[MAX_BARS];
        final int[] letters = new int[MAX_BARS];
        final int[] reasons = new int[MAX_BARS];
        final int[] placesById = new int[MAX_BARS];

        void refresh() {
            findLabels();
            countCovers();
            listPlayed();
            seatMarks();
            showLetters();
            findReasons();
            sortById();
        }

        private void findLabels() {
            int number = 0;
            int suffix = 0;
            for (int place = 0; place < score.barCount; place++) {
                if (score.inserted[place] == 0) {
                    number++;
                    suffix = 0;
                } else {
                    suffix++;
                }
                labels[place] = THOUSAND * number + suffix;
            }
        }

        private void countCovers() {
            Arrays.fill(covers, 0);
            for (int cut = 0; cut < MAX_CUTS; cut++) {
                if (score.hasCut(cut)) {
                    int first = score.placeOf(score.cutFirsts[cut]);
                    int last = score.placeOf(score.cutLasts[cut]);
                    for (int place = first; place >= 0 && place <= last; place++) {
                        covers[place]++;
                    }
                }
            }
        }

        private void listPlayed() {
            playedCount = 0;
            for (int place = 0; place < score.barCount; place++) {
                playedBefore[place] = playedCount;
                if (covers[place] == 0) {
                    playedPlaces[playedCount] = place;
                    playedCount++;
                }
            }
        }

        private void seatMarks() {
            Arrays.fill(sitting, 0);
            for (int letter = 1; letter <= MAX_LETTER; letter++) {
                if (score.hasMark(letter)) {
                    int place = score.placeOf(score.markedBars[letter]);
                    if (place != NONE) {
                        sitting[place] = letter;
                    }
                }
            }
        }

        private void showLetters() {
            Arrays.fill(letters, 0);
            for (int place = 0; place < score.barCount; place++) {
                int shown = firstPlayedFrom(place);
                // A later mark that shows at the same bar sits nearer to it, so it takes the place of an earlier one.
                if (sitting[place] != 0 && shown != NONE) {
                    letters[shown] = sitting[place];
                }
            }
        }

        private void findReasons() {
            Arrays.fill(reasons, 0);
            for (int index = 1; index < playedCount; index++) {
                int place = playedPlaces[index];
                reasons[place] = reasonBetween(playedPlaces[index - 1], place);
            }
        }

        private int reasonBetween(int a, int b) {
            if (letters[b] != 0) {
                return 1;
            }
            if (score.beatCounts[a] != score.beatCounts[b]) {
                return 2;
            }
            if (score.texts[b] != 0) {
                return 3;
            }
            if (score.doubles[a] != 0) {
                return 4;
            }
            return b - a > 1 ? 5 : 0;
        }

        private void sortById() {
            for (int place = 0; place < score.barCount; place++) {
                int slot = place;
                while (slot > 0 && score.ids[placesById[slot - 1]] > score.ids[place]) {
                    placesById[slot] = placesById[slot - 1];
                    slot--;
                }
                placesById[slot] = place;
            }
        }

        boolean isPlayed(int place) {
            return covers[place] == 0;
        }

        private int firstPlayedFrom(int place) {
            int index = playedBefore[place];
            return index < playedCount ? playedPlaces[index] : NONE;
        }

        int placeShown(int letter) {
            if (!score.hasMark(letter)) {
                return NONE;
            }
            int place = score.placeOf(score.markedBars[letter]);
            return place == NONE ? NONE : firstPlayedFrom(place);
        }

        int placeOfLetter(int letter) {
            int shown = placeShown(letter);
            return shown != NONE && letters[shown] == letter ? shown : NONE;
        }

        int countHiddenBy(int cut) {
            int first = score.placeOf(score.cutFirsts[cut]);
            int last = score.placeOf(score.cutLasts[cut]);
            int hidden = 0;
            for (int place = first; place >= 0 && place <= last; place++) {
                hidden += covers[place] == 1 ? 1 : 0;
            }
            return hidden;
        }

        int sumBeats(int start, int end) {
            int sum = 0;
            for (int index = start; index < end; index++) {
                sum += score.beatCounts[playedPlaces[index]];
            }
            return sum;
        }

        boolean startsItem(int part, int index) {
            if (index == 0) {
                return true;
            }
            int place = playedPlaces[index];
            int before = playedPlaces[index - 1];
            return score.contentAt(part, place) != REST || score.contentAt(part, before) != REST
                    || reasons[place] != 0;
        }

        int countItems(int part, int end) {
            int items = 0;
            for (int index = 0; index < end; index++) {
                items += startsItem(part, index) ? 1 : 0;
            }
            return items;
        }

        int startOfItem(int part, int item) {
            int items = 0;
            for (int index = 0; index < playedCount; index++) {
                if (startsItem(part, index)) {
                    if (items == item) {
                        return index;
                    }
                    items++;
                }
            }
            return NONE;
        }

        int endOfItem(int part, int start) {
            for (int index = start + 1; index < playedCount; index++) {
                if (startsItem(part, index)) {
                    return index;
                }
            }
            return playedCount;
        }

        int longestRestOf(int part) {
            int longest = 0;
            int length = 0;
            for (int index = 0; index < playedCount; index++) {
                length = startsItem(part, index) ? 1 : length + 1;
                if (score.contentAt(part, playedPlaces[index]) == REST) {
                    longest = Math.max(longest, length);
                }
            }
            return longest;
        }
    }

    /** What was noted when a part was printed, in ascending order of the ids. */
    private static final class Noted {
        final int count;
        final int[] ids = new int[MAX_BARS];
        final int[] labels = new int[MAX_BARS];
        final int[] letters = new int[MAX_BARS];
        final int[] beatCounts = new int[MAX_BARS];
        final int[] contents = new int[MAX_BARS];

        Noted(View view, int part) {
            Score score = view.score;
            int entry = 0;
            for (int slot = 0; slot < score.barCount; slot++) {
                int place = view.placesById[slot];
                if (view.isPlayed(place)) {
                    ids[entry] = score.ids[place];
                    labels[entry] = view.labels[place];
                    letters[entry] = view.letters[place];
                    beatCounts[entry] = score.beatCounts[place];
                    contents[entry] = score.contentAt(part, place);
                    entry++;
                }
            }
            count = entry;
        }

        int barWithLetter(int letter) {
            for (int entry = 0; entry < count; entry++) {
                if (letters[entry] == letter) {
                    return ids[entry];
                }
            }
            return NONE;
        }
    }

    /** Compares a print with the score as it is, and holds the erratum to which it came last. */
    private static final class Proofreader {
        int id = NONE;
        int kind = 0;
        int noted = NONE;

        // Stops behind the wanted erratum, or at the end; answers how many errata it has seen.
        int walk(View view, int part, Noted print, int wanted) {
            Score score = view.score;
            int seen = 0;
            int slot = 0;
            int entry = 0;
            int steps = score.barCount + print.count;
            for (int step = 0; step < steps && seen <= wanted; step++) {
                boolean hasBar = slot < score.barCount;
                boolean hasEntry = entry < print.count;
                int place = hasBar ? view.placesById[slot] : NONE;
                boolean takesBar = hasBar && (!hasEntry || score.ids[place] <= print.ids[entry]);
                boolean takesEntry = hasEntry && (!hasBar || print.ids[entry] <= score.ids[place]);
                int found = compare(view, part, takesBar ? place : NONE, print, takesEntry ? entry : NONE);
                if (found != 0) {
                    seen++;
                    kind = found;
                    id = takesBar ? score.ids[place] : print.ids[entry];
                    noted = takesEntry ? notedFor(found, print, entry) : NONE;
                }
                slot += takesBar ? 1 : 0;
                entry += takesEntry ? 1 : 0;
            }
            return seen;
        }

        private static int compare(View view, int part, int place, Noted print, int entry) {
            boolean isPlayed = place != NONE && view.isPlayed(place);
            if (entry == NONE) {
                return isPlayed ? 1 : 0;
            }
            if (!isPlayed) {
                return 2;
            }
            if (view.labels[place] != print.labels[entry]) {
                return 3;
            }
            if (view.letters[place] != print.letters[entry]) {
                return 4;
            }
            if (view.score.beatCounts[place] != print.beatCounts[entry]) {
                return 5;
            }
            return view.score.contentAt(part, place) == print.contents[entry] ? 0 : 6;
        }

        private static int notedFor(int kind, Noted print, int entry) {
            switch (kind) {
                case 4:
                    return print.letters[entry];
                case 5:
                    return print.beatCounts[entry];
                case 6:
                    return print.contents[entry];
                default:
                    return print.labels[entry];
            }
        }
    }

    /** The scores before the latest changes. */
    private static final class History {
        // Each is made when it is needed first, and used again when the oldest change is forgotten.
        private final Score[] kept = new Score[MAX_UNDO];
        private int next = 0;
        int count = 0;

        void keep(Score score) {
            Score free = kept[next];
            if (free == null) {
                free = new Score();
                kept[next] = free;
            }
            free.copyFrom(score);
            next = next + 1 == MAX_UNDO ? 0 : next + 1;
            count = Math.min(count + 1, MAX_UNDO);
        }

        void bringBack(Score score) {
            next = next == 0 ? MAX_UNDO - 1 : next - 1;
            count--;
            Score latest = kept[next];
            if (latest != null) {
                score.copyFrom(latest);
            }
        }

        void forget() {
            count = 0;
        }
    }

    /** Writes parts to the output buffer. */
    private static final class PartWriter {
        // Two letters and a space, three digits and a suffix, a space, "rest", a space, three digits, a line feed.
        private static final int MAX_LINE = 17;

        final byte[] bytes = new byte[MAX_BARS * MAX_LINE];
        int length = 0;

        void writeItems(View view, int part) {
            length = 0;
            for (int index = 0; index < view.playedCount; index++) {
                if (view.startsItem(part, index)) {
                    int place = view.playedPlaces[index];
                    writeLetter(view.letters[place]);
                    writeLabel(view.labels[place]);
                    writeContent(view.score.contentAt(part, place), view.endOfItem(part, index) - index);
                    writeByte('\n');
                }
            }
        }

        private void writeLetter(int letter) {
            if (letter == 0) {
                return;
            }
            if (letter <= 26) {
                writeByte('A' + letter - 1);
            } else {
                writeByte('A' + letter - 27);
                writeByte('A' + letter - 27);
            }
            writeByte(' ');
        }

        private void writeLabel(int label) {
            int suffix = label % THOUSAND;
            writeNumber(label / THOUSAND);
            if (suffix != 0) {
                writeByte('a' + Math.min(suffix, 26) - 1);
            }
            writeByte(' ');
        }

        private void writeContent(int content, int count) {
            if (content == NOTES) {
                writeWord("play");
            } else if (content == CUE) {
                writeWord("cue");
            } else {
                writeWord("rest ");
                writeNumber(count);
            }
        }

        private void writeWord(String word) {
            for (int index = 0; index < word.length(); index++) {
                writeByte(word.charAt(index));
            }
        }

        private void writeNumber(int number) {
            if (number >= 100) {
                writeByte('0' + number / 100);
            }
            if (number >= 10) {
                writeByte('0' + number / 10 % 10);
            }
            writeByte('0' + number % 10);
        }

        private void writeByte(int value) {
            if (length < bytes.length) {
                bytes[length] = (byte) value;
                length++;
            }
        }
    }

    /** Holds the input buffer, and parses its text into a draft, token by token, up to the first error. */
    private static final class TextReader {
        private static final int SYNTAX = 1;
        private static final int RANGE = 2;
        private static final int DUPLICATE = 3;
        private static final int LIMIT = 4;

        private static final int END = 0;
        private static final int WORD = 1;
        private static final int NUMBER = 2;
        private static final int SEMICOLON = 3;
        // What no grammar allows: another byte, a number too long, a word or number without space before it.
        private static final int WRONG = 4;

        private static final int MAX_DIGITS = 4;
        private static final int MAX_NAME = 6;
        private static final int MAX_COUNT = 99;
        private static final int USUAL_BEATS = 4;

        final Score draft = new Score();
        int code = 0;
        int position = NONE;
        int inputLength = 0;
        private final byte[] text = new byte[MAX_INPUT];
        private int textLength = 0;
        private int cutCount = 0;
        private final int[] names = new int[MAX_PARTS];
        private int tokenKind = END;
        private int tokenStart = 0;
        private int tokenEnd = 0;
        private int number = 0;

        void appendBytes(int four) {
            for (int shift = 24; shift >= 0 && inputLength < text.length; shift -= 8) {
                text[inputLength] = (byte) (four >> shift);
                inputLength++;
            }
        }

        // The bytes stay in their places while they are read, though the buffer counts as empty at once.
        boolean readScore(int length) {
            inputLength = 0;
            draft.clear();
            cutCount = 0;
            code = 0;
            position = NONE;
            textLength = Math.min(length, text.length);
            tokenKind = END;
            tokenEnd = 0;
            nextToken();
            boolean isRight = true;
            for (int statement = 0; statement <= textLength && isRight && tokenKind != END; statement++) {
                isRight = readStatement() && readSemicolon();
            }
            return isRight;
        }

        private boolean fail(int error) {
            code = error;
            position = tokenStart;
            return false;
        }

        private boolean readStatement() {
            if (isWord("bars")) {
                return readBars();
            }
            if (isWord("mark")) {
                return readMark();
            }
            if (isWord("text")) {
                return readFlag(draft.texts);
            }
            if (isWord("double")) {
                return readFlag(draft.doubles);
            }
            if (isWord("cut")) {
                return readCut();
            }
            if (isWord("part")) {
                return readPart();
            }
            return fail(SYNTAX);
        }

        private boolean readSemicolon() {
            if (tokenKind != SEMICOLON) {
                return fail(SYNTAX);
            }
            nextToken();
            return true;
        }

        private boolean readBars() {
            nextToken();
            if (!isNumberUpTo(MAX_COUNT)) {
                return false;
            }
            int count = number;
            if (draft.barCount + count > MAX_BARS) {
                return fail(LIMIT);
            }
            int beats = USUAL_BEATS;
            nextToken();
            if (tokenKind == NUMBER) {
                if (!isNumberUpTo(MAX_BEATS)) {
                    return false;
                }
                beats = number;
                nextToken();
            }
            draft.addBars(draft.barCount, count, draft.barCount, beats, 0);
            return true;
        }

        private boolean readMark() {
            if (draft.markCount >= MAX_MARKS) {
                return fail(LIMIT);
            }
            nextToken();
            if (!isNumberUpTo(draft.barCount)) {
                return false;
            }
            int bar = number - 1;
            for (int letter = 1; letter <= draft.markCount; letter++) {
                if (draft.markedBars[letter] == bar) {
                    return fail(DUPLICATE);
                }
            }
            draft.setMark(draft.markCount + 1, bar);
            nextToken();
            return true;
        }

        private boolean readFlag(int[] flags) {
            nextToken();
            if (!isNumberUpTo(draft.barCount)) {
                return false;
            }
            flags[number - 1] = 1;
            nextToken();
            return true;
        }

        private boolean readCut() {
            if (cutCount >= MAX_CUTS) {
                return fail(LIMIT);
            }
            nextToken();
            if (!isNumberUpTo(draft.barCount)) {
                return false;
            }
            int first = number - 1;
            nextToken();
            if (!isNumberUpTo(draft.barCount)) {
                return false;
            }
            int last = number - 1;
            if (last < first) {
                return fail(RANGE);
            }
            draft.setCut(cutCount, first, last);
            cutCount++;
            nextToken();
            return true;
        }

        private boolean readPart() {
            if (draft.partCount >= MAX_PARTS) {
                return fail(LIMIT);
            }
            nextToken();
            if (tokenKind != WORD || tokenEnd - tokenStart > MAX_NAME) {
                return fail(SYNTAX);
            }
            int name = nameInToken();
            for (int part = 0; part < draft.partCount; part++) {
                if (names[part] == name) {
                    return fail(DUPLICATE);
                }
            }
            names[draft.partCount] = name;
            nextToken();
            int told = 0;
            for (int group = 0; group < textLength && tokenKind == WORD; group++) {
                if (!readGroup(told)) {
                    return false;
                }
                told += number;
                nextToken();
            }
            draft.partCount++;
            return true;
        }

        // Leaves the count of the group in number.
        private boolean readGroup(int told) {
            int content = contentInToken();
            if (content == NONE) {
                return fail(SYNTAX);
            }
            nextToken();
            if (!isNumberUpTo(Math.min(MAX_COUNT, draft.barCount - told))) {
                return false;
            }
            for (int offset = 0; offset < number; offset++) {
                draft.putContent(draft.partCount, told + offset, content);
            }
            return true;
        }

        private int contentInToken() {
            if (isWord("rest")) {
                return REST;
            }
            if (isWord("play")) {
                return NOTES;
            }
            return isWord("cue") ? CUE : NONE;
        }

        private boolean isNumberUpTo(int greatest) {
            if (tokenKind != NUMBER) {
                return fail(SYNTAX);
            }
            if (number < 1 || number > greatest) {
                return fail(RANGE);
            }
            return true;
        }

        private boolean isWord(String word) {
            if (tokenKind != WORD || tokenEnd - tokenStart != word.length()) {
                return false;
            }
            for (int index = 0; index < word.length(); index++) {
                if (text[tokenStart + index] != word.charAt(index)) {
                    return false;
                }
            }
            return true;
        }

        // Letters count 1 to 26, so that names of different lengths are different numbers, too.
        private int nameInToken() {
            int name = 0;
            for (int index = tokenStart; index < tokenEnd; index++) {
                name = name * 27 + (text[index] - 'a' + 1);
            }
            return name;
        }

        private void nextToken() {
            boolean wasLong = tokenKind == WORD || tokenKind == NUMBER;
            int previousEnd = tokenEnd;
            tokenStart = previousEnd;
            while (tokenStart < textLength && isSpace(text[tokenStart])) {
                tokenStart++;
            }
            tokenEnd = tokenStart;
            if (tokenStart >= textLength) {
                tokenKind = END;
            } else if (isLetter(text[tokenStart])) {
                takeWord();
            } else if (isDigit(text[tokenStart])) {
                takeNumber();
            } else {
                tokenKind = text[tokenStart] == ';' ? SEMICOLON : WRONG;
                tokenEnd = tokenStart + 1;
            }
            boolean isLong = tokenKind == WORD || tokenKind == NUMBER;
            if (isLong && wasLong && tokenStart == previousEnd) {
                tokenKind = WRONG;
            }
        }

        private void takeWord() {
            tokenKind = WORD;
            while (tokenEnd < textLength && isLetter(text[tokenEnd])) {
                tokenEnd++;
            }
        }

        private void takeNumber() {
            number = 0;
            while (tokenEnd < textLength && isDigit(text[tokenEnd])) {
                // A number too long is wrong whatever its value, which must not overflow.
                number = number < 10_000 ? number * 10 + (text[tokenEnd] - '0') : number;
                tokenEnd++;
            }
            tokenKind = tokenEnd - tokenStart > MAX_DIGITS ? WRONG : NUMBER;
        }

        private static boolean isSpace(byte value) {
            return value == ' ' || value == '\n';
        }

        private static boolean isLetter(byte value) {
            return value >= 'a' && value <= 'z';
        }

        private static boolean isDigit(byte value) {
            return value >= '0' && value <= '9';
        }
    }
}
