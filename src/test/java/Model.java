import java.util.ArrayDeque;
import java.util.ArrayList;
import java.util.Deque;
import java.util.HashMap;
import java.util.List;
import java.util.Map;
import java.util.NoSuchElementException;
import java.util.TreeMap;
import java.util.TreeSet;

/** The document once more, as plainly as its words: all else is asked of what it describes, and kept for one call. */
final class Model {
    static final class Bar {
        int id;
        int beats;
        boolean inserted;
        boolean text;
        boolean twofold;
        int[] content = new int[6];

        Bar copy() {
            Bar copy = new Bar();
            copy.id = id;
            copy.beats = beats;
            copy.inserted = inserted;
            copy.text = text;
            copy.twofold = twofold;
            copy.content = content.clone();
            return copy;
        }
    }

    record Note(int label, int letter, int beats, int content) { }

    static final class State {
        List<Bar> bars = new ArrayList<>();
        Map<Integer, int[]> cuts = new TreeMap<>();
        Map<Integer, Integer> marks = new TreeMap<>();
        int parts = 0;
        Map<Integer, Map<Integer, Note>> prints = new TreeMap<>();

        State copy() {
            State copy = new State();
            for (Bar bar : bars) {
                copy.bars.add(bar.copy());
            }
            copy.cuts.putAll(cuts);
            copy.marks.putAll(marks);
            copy.parts = parts;
            copy.prints.putAll(prints);
            return copy;
        }
    }

    State now = new State();
    Deque<State> undoable = new ArrayDeque<>();
    int nextId = 0;
    String output = "";

    // Kept for one call, as the answers would take too long otherwise.
    private final Map<Integer, Integer> places = new HashMap<>();
    private final Map<Integer, Integer> letters = new HashMap<>();
    private List<Integer> played = null;

    /** Must be called before each call and when the state has changed within one. */
    void forget() {
        places.clear();
        letters.clear();
        played = null;
    }

    // ---- reading the state

    Bar find(int id) {
        return now.bars.get(place(id));
    }

    int place(int id) {
        if (places.isEmpty()) {
            for (Bar bar : now.bars) {
                places.put(bar.id, places.size());
            }
        }
        if (!places.containsKey(id)) {
            throw new NoSuchElementException();
        }
        return places.get(id);
    }

    int label(int id) {
        int place = place(id);
        int number = 0;
        for (int before = 0; before <= place; before++) {
            number += now.bars.get(before).inserted ? 0 : 1;
        }
        int suffix = 0;
        for (int before = place; before >= 0 && now.bars.get(before).inserted; before--) {
            suffix++;
        }
        return 1000 * number + suffix;
    }

    boolean covers(int cut, int id) {
        int[] ends = now.cuts.get(cut);
        return place(ends[0]) <= place(id) && place(id) <= place(ends[1]);
    }

    boolean isPlayed(int id) {
        find(id);
        for (int cut : now.cuts.keySet()) {
            if (covers(cut, id)) {
                return false;
            }
        }
        return true;
    }

    List<Integer> playedIds() {
        if (played == null) {
            played = new ArrayList<>();
            for (Bar bar : now.bars) {
                if (isPlayed(bar.id)) {
                    played.add(bar.id);
                }
            }
        }
        return played;
    }

    int indexOfPlayed(int id) {
        find(id);
        if (!isPlayed(id)) {
            throw new IllegalStateException();
        }
        return playedIds().indexOf(id);
    }

    int shows(int letter) {
        for (int id : playedIds()) {
            if (place(id) >= place(now.marks.get(letter))) {
                return id;
            }
        }
        return -1;
    }

    int letterAt(int id) {
        return letters.computeIfAbsent(id, this::findLetterAt);
    }

    private int findLetterAt(int id) {
        int best = 0;
        for (int letter : now.marks.keySet()) {
            boolean isNearer = best == 0 || place(now.marks.get(letter)) > place(now.marks.get(best));
            if (shows(letter) == id && isNearer) {
                best = letter;
            }
        }
        return best;
    }

    int barOfLetter(int letter) {
        for (int id : playedIds()) {
            if (letterAt(id) == letter) {
                return id;
            }
        }
        return -1;
    }

    int sitting(int id) {
        for (int letter : now.marks.keySet()) {
            if (now.marks.get(letter) == id) {
                return letter;
            }
        }
        return 0;
    }

    void needPart(int part) {
        if (part < 0 || part >= now.parts) {
            throw new NoSuchElementException();
        }
    }

    static void need(boolean holds) {
        if (!holds) {
            throw new IllegalArgumentException();
        }
    }

    int bar(int id, int what) {
        Bar bar = find(id);
        need(what >= 0 && what <= 8);
        int[] answers = {place(id), label(id), bar.beats, bar.inserted ? 1 : 0, bar.text ? 1 : 0, bar.twofold ? 1 : 0,
            isPlayed(id) ? 1 : 0, letterAt(id), sitting(id)};
        return answers[what];
    }

    int labelled(int label) {
        for (Bar bar : now.bars) {
            if (label(bar.id) == label) {
                return bar.id;
            }
        }
        throw new NoSuchElementException();
    }

    int beats() {
        int sum = 0;
        for (int id : playedIds()) {
            sum += find(id).beats;
        }
        return sum;
    }

    int[] cut(int cut) {
        if (!now.cuts.containsKey(cut)) {
            throw new NoSuchElementException();
        }
        return now.cuts.get(cut);
    }

    int hiddenBy(int cut) {
        int[] ends = cut(cut);
        int before = playedIds().size();
        now.cuts.remove(cut);
        forget();
        int after = playedIds().size();
        now.cuts.put(cut, ends);
        forget();
        return after - before;
    }

    int mark(int letter, int what) {
        if (!now.marks.containsKey(letter)) {
            throw new NoSuchElementException();
        }
        need(what >= 0 && what <= 2);
        return what == 0 ? now.marks.get(letter) : what == 1 ? shows(letter) : barOfLetter(letter) == -1 ? 0 : 1;
    }

    int from(int letter, int bars) {
        if (!now.marks.containsKey(letter) || barOfLetter(letter) == -1) {
            throw new NoSuchElementException();
        }
        long index = 0L + playedIds().indexOf(barOfLetter(letter)) + bars;
        if (index < 0 || index >= playedIds().size()) {
            throw new NoSuchElementException();
        }
        return playedIds().get((int) index);
    }

    int called(int id) {
        int index = indexOfPlayed(id);
        for (int before = index; before >= 0; before--) {
            int letter = letterAt(playedIds().get(before));
            if (letter != 0) {
                return 1000 * letter + index - before;
            }
        }
        return index;
    }

    int reason(int id) {
        int index = indexOfPlayed(id);
        if (index == 0) {
            return 0;
        }
        Bar b = find(id);
        Bar a = find(playedIds().get(index - 1));
        return letterAt(id) != 0 ? 1 : a.beats != b.beats ? 2 : b.text ? 3 : a.twofold ? 4
                : place(b.id) - place(a.id) > 1 ? 5 : 0;
    }

    List<List<Integer>> itemsOf(int part) {
        needPart(part);
        List<List<Integer>> items = new ArrayList<>();
        List<Integer> rest = null;
        for (int id : playedIds()) {
            boolean isRest = find(id).content[part] == 0;
            if (isRest && rest != null && reason(id) == 0) {
                rest.add(id);
                continue;
            }
            List<Integer> item = new ArrayList<>(List.of(id));
            items.add(item);
            rest = isRest ? item : null;
        }
        return items;
    }

    int item(int part, int item, int what) {
        needPart(part);
        need(what >= 0 && what <= 3);
        List<List<Integer>> items = itemsOf(part);
        if (item < 0 || item >= items.size()) {
            throw new IndexOutOfBoundsException();
        }
        List<Integer> ids = items.get(item);
        int beats = 0;
        for (int id : ids) {
            beats += find(id).beats;
        }
        return new int[] {ids.get(0), ids.size(), find(ids.get(0)).content[part], beats}[what];
    }

    int itemOf(int part, int id) {
        needPart(part);
        indexOfPlayed(id);
        List<List<Integer>> items = itemsOf(part);
        for (int item = 0; item < items.size(); item++) {
            if (items.get(item).contains(id)) {
                return 1000 * item + items.get(item).indexOf(id);
            }
        }
        return -2;
    }

    int longestRest(int part) {
        int longest = 0;
        for (List<Integer> item : itemsOf(part)) {
            if (find(item.get(0)).content[part] == 0) {
                longest = Math.max(longest, item.size());
            }
        }
        return longest;
    }

    int waiting(int part, int id) {
        needPart(part);
        int index = indexOfPlayed(id);
        List<Integer> ids = playedIds();
        for (int next = index; next < ids.size(); next++) {
            if (find(ids.get(next)).content[part] == 1) {
                return next - index;
            }
        }
        return -1;
    }

    int sounding(int id) {
        int set = 0;
        for (int part = 0; part < now.parts; part++) {
            set += find(id).content[part] == 1 ? 1 << part : 0;
        }
        find(id);
        return set;
    }

    List<int[]> errata(int part) {
        needPart(part);
        Map<Integer, Note> print = now.prints.get(part);
        if (print == null) {
            throw new IllegalStateException();
        }
        TreeSet<Integer> ids = new TreeSet<>(print.keySet());
        ids.addAll(playedIds());
        List<int[]> errata = new ArrayList<>();
        for (int id : ids) {
            Note was = print.get(id);
            if (was == null) {
                errata.add(new int[] {id, 1, -1});
            } else if (!playedIds().contains(id)) {
                errata.add(new int[] {id, 2, was.label});
            } else if (label(id) != was.label) {
                errata.add(new int[] {id, 3, was.label});
            } else if (letterAt(id) != was.letter) {
                errata.add(new int[] {id, 4, was.letter});
            } else if (find(id).beats != was.beats) {
                errata.add(new int[] {id, 5, was.beats});
            } else if (find(id).content[part] != was.content) {
                errata.add(new int[] {id, 6, was.content});
            }
        }
        return errata;
    }

    int erratum(int part, int erratum, int what) {
        needPart(part);
        need(what >= 0 && what <= 2);
        List<int[]> errata = errata(part);
        if (erratum < 0 || erratum >= errata.size()) {
            throw new IndexOutOfBoundsException();
        }
        return errata.get(erratum)[what];
    }

    int misled(int letter) {
        need(letter >= 1 && letter <= 40);
        int set = 0;
        for (int part : now.prints.keySet()) {
            int noted = -1;
            for (Map.Entry<Integer, Note> entry : now.prints.get(part).entrySet()) {
                noted = entry.getValue().letter == letter ? entry.getKey() : noted;
            }
            set |= noted == barOfLetter(letter) ? 0 : 1 << part;
        }
        return set;
    }

    // ---- changes

    void beginChange() {
        undoable.addLast(now.copy());
        if (undoable.size() > 10) {
            undoable.removeFirst();
        }
    }

    int insert(int after, int count, int beats) {
        int at = after == -1 ? 0 : place(after) + 1;
        need(count >= 1 && count <= 20 && beats >= 1 && beats <= 12);
        if (now.bars.size() + count > 150) {
            throw new IllegalStateException();
        }
        beginChange();
        int first = nextId;
        for (int added = 0; added < count; added++) {
            Bar bar = new Bar();
            bar.id = nextId++;
            bar.beats = beats;
            bar.inserted = true;
            now.bars.add(at + added, bar);
        }
        return first;
    }

    int erase(int id) {
        Bar bar = find(id);
        boolean isHeld = !bar.inserted || sitting(id) != 0;
        for (int[] ends : now.cuts.values()) {
            isHeld |= ends[0] == id || ends[1] == id;
        }
        if (isHeld) {
            throw new IllegalStateException();
        }
        beginChange();
        now.bars.remove(bar);
        return now.bars.size();
    }

    int makeCut(int first, int last) {
        find(first);
        find(last);
        need(place(first) <= place(last));
        int cut = 0;
        while (now.cuts.containsKey(cut)) {
            cut++;
        }
        if (cut >= 10) {
            throw new IllegalStateException();
        }
        beginChange();
        now.cuts.put(cut, new int[] {first, last});
        return cut;
    }

    int openCut(int cut) {
        cut(cut);
        beginChange();
        now.cuts.remove(cut);
        forget();
        return playedIds().size();
    }

    int putMark(int letter, int id) {
        find(id);
        need(letter >= 1 && letter <= 40);
        boolean isTaken = sitting(id) != 0 && sitting(id) != letter;
        if (isTaken || now.marks.size() == 20 && !now.marks.containsKey(letter)) {
            throw new IllegalStateException();
        }
        beginChange();
        Integer before = now.marks.put(letter, id);
        return before == null ? -1 : before;
    }

    int removeMark(int letter) {
        mark(letter, 0);
        beginChange();
        now.marks.remove(letter);
        return now.marks.size();
    }

    int reletter() {
        beginChange();
        Map<Integer, Integer> marks = new TreeMap<>();
        int others = 0;
        for (Bar bar : now.bars) {
            if (sitting(bar.id) != 0) {
                marks.put(marks.size() + 1, bar.id);
                others += sitting(bar.id) == marks.size() ? 0 : 1;
            }
        }
        now.marks = marks;
        return others;
    }

    int renumber() {
        beginChange();
        List<Integer> labels = new ArrayList<>();
        for (Bar bar : now.bars) {
            labels.add(label(bar.id));
        }
        for (Bar bar : now.bars) {
            bar.inserted = false;
        }
        int others = 0;
        for (Bar bar : now.bars) {
            others += label(bar.id) == labels.get(place(bar.id)) ? 0 : 1;
        }
        return others;
    }

    int setBar(int id, int what, int value) {
        find(id);
        need(what == 2 || what == 4 || what == 5);
        need(what == 2 ? value >= 1 && value <= 12 : value == 0 || value == 1);
        beginChange();
        int before = bar(id, what);
        Bar bar = find(id);
        bar.beats = what == 2 ? value : bar.beats;
        bar.text = what == 4 ? value == 1 : bar.text;
        bar.twofold = what == 5 ? value == 1 : bar.twofold;
        return before;
    }

    int content(int part, int id) {
        needPart(part);
        return find(id).content[part];
    }

    int setContent(int part, int id, int value) {
        int before = content(part, id);
        need(value >= 0 && value <= 2);
        beginChange();
        find(id).content[part] = value;
        return before;
    }

    int print(int part) {
        needPart(part);
        beginChange();
        Map<Integer, Note> print = new TreeMap<>();
        for (int id : playedIds()) {
            print.put(id, new Note(label(id), letterAt(id), find(id).beats, find(id).content[part]));
        }
        now.prints.put(part, print);
        return itemsOf(part).size();
    }

    int undo() {
        if (undoable.isEmpty()) {
            throw new IllegalStateException();
        }
        now = undoable.removeLast();
        return undoable.size();
    }

    // ---- output

    int writePart(int part) {
        StringBuilder all = new StringBuilder();
        for (List<Integer> item : itemsOf(part)) {
            int id = item.get(0);
            int letter = letterAt(id);
            String sign = String.valueOf((char) ('A' + (letter + 25) % 26));
            all.append(letter == 0 ? "" : letter <= 26 ? sign + " " : sign + sign + " ");
            all.append(label(id) / 1000);
            int suffix = label(id) % 1000;
            all.append(suffix == 0 ? "" : String.valueOf("abcdefghijklmnopqrstuvwxyz".charAt(Math.min(suffix, 26) - 1)));
            all.append(new String[] {" rest " + item.size(), " play", " cue"}[find(id).content[part]]).append('\n');
        }
        output = all.toString();
        return output.length();
    }

    int outputByte(int index) {
        if (index < 0 || index >= output.length()) {
            throw new IndexOutOfBoundsException();
        }
        return output.charAt(index);
    }
}
