import java.util.ArrayDeque;
import java.util.ArrayList;
import java.util.HashMap;
import java.util.HashSet;
import java.util.List;
import java.util.Map;
import java.util.Set;

/** The document once more, as plainly and as differently as can be: slow, with lists and sets, for comparison. */
final class Oracle {
    private static final int NONE = -1, UNKNOWN = -1000000001, OUTSIDE = -1000000002, NOT = -1000000003, FULL = -1000000004;

    /** All of section 2. */
    private static final class World {
        final Map<String, Integer> near = new HashMap<>();
        final List<Integer> at = new ArrayList<>();
        final List<List<Integer>> lines = new ArrayList<>();
        final List<Integer> fares = new ArrayList<>();
        final Set<Integer> dead = new HashSet<>();
        int rides;
        int days;

        World copy() {
            World w = new World();
            w.near.putAll(near);
            w.at.addAll(at);
            for (List<Integer> line : lines) {
                w.lines.add(new ArrayList<>(line));
            }
            w.fares.addAll(fares);
            w.dead.addAll(dead);
            w.rides = rides;
            w.days = days;
            return w;
        }

        int persons() {
            return at.size();
        }

        int near(int p, int q) {
            return p == q ? 9 : near.get(Math.min(p, q) + " " + Math.max(p, q));
        }

        boolean nearer(int p, int q) {
            int ahead = near(p, q);
            if (p != q) {
                near.put(Math.min(p, q) + " " + Math.max(p, q), Math.min(9, ahead + 1));
            }
            return near(p, q) > ahead;
        }

        int sum() {
            return near.values().stream().mapToInt(Integer::intValue).sum();
        }

        boolean leaves(int l, int gate) {
            List<Integer> line = lines.get(l);
            return line.contains(gate) && line.indexOf(gate) < line.size() - 1;
        }

        /** The gates at which p may get off who gets on l at a gate, in turn. */
        List<Integer> onward(int p, int l, int gate) {
            List<Integer> gates = new ArrayList<>();
            if (leaves(l, gate)) {
                List<Integer> line = lines.get(l);
                for (int k = line.indexOf(gate) + 1; k < line.size(); k++) {
                    if (near(p, line.get(k)) < k * fares.get(l)) {
                        break;
                    }
                    gates.add(line.get(k));
                }
            }
            return gates;
        }

        void ride(int p, int l, int n) {
            List<Integer> gates = onward(p, l, at.get(p));
            rides++;
            if (!gates.isEmpty()) {
                at.set(p, gates.get(Math.min(n, gates.size()) - 1));
            }
        }

        void sleep(int p, int l) {
            int last = lines.get(l).get(lines.get(l).size() - 1);
            rides++;
            at.set(p, last);
            if (!dead.contains(last)) {
                nearer(p, last);
            }
        }

        boolean morning() {
            boolean some = false;
            for (int p = 0; p < persons(); p++) {
                for (int q = p + 1; q < persons(); q++) {
                    if (!dead.contains(p) && !dead.contains(q) && at.get(p).equals(at.get(q))) {
                        some |= nearer(p, q);
                    }
                }
            }
            for (int p = 0; p < persons(); p++) {
                if (!dead.contains(p)) {
                    at.set(p, p);
                }
            }
            days++;
            return some;
        }

        /** Fewest rides to each gate, by lines that are allowed. */
        Map<Integer, Integer> walk(int p, int from, int without) {
            Map<Integer, Integer> far = new HashMap<>();
            ArrayDeque<Integer> open = new ArrayDeque<>();
            far.put(from, 0);
            open.add(from);
            while (!open.isEmpty()) {
                int gate = open.remove();
                for (int l = 0; l < lines.size(); l++) {
                    if (l == without) {
                        continue;
                    }
                    for (int next : onward(p, l, gate)) {
                        if (!far.containsKey(next)) {
                            far.put(next, far.get(gate) + 1);
                            open.add(next);
                        }
                    }
                }
            }
            return far;
        }

        int pairs() {
            int pairs = 0;
            for (int p = 0; p < persons(); p++) {
                for (int q = 0; q < persons(); q++) {
                    if (p != q && !dead.contains(p) && walk(p, p, NONE).containsKey(q)) {
                        pairs++;
                    }
                }
            }
            return pairs;
        }
    }

    private String text = "";
    private int fault = NONE;
    private World world = new World();
    private List<World> undone = new ArrayList<>();
    private List<int[]> seen = new ArrayList<>();
    private List<int[]> book = new ArrayList<>();
    private World[] images = new World[2];
    private long[] imageSeeds = new long[2];
    private long seed = 0;

    int feed(int letter) {
        if (letter < 0 || letter > 255) {
            return OUTSIDE;
        }
        if (text.length() == 200) {
            return FULL;
        }
        text += (char) letter;
        return text.length();
    }

    /** A word and where it stands: 'n' for numbers; 'e' for the end. */
    private record Word(char kind, String figures, int place) {
        int value() {
            return figures.length() > 3 ? 9999 : Integer.parseInt(figures);
        }
    }

    private static final class Fault extends Exception {
        private static final long serialVersionUID = 1L;
        final int kind;
        final int place;

        Fault(int kind, int place) {
            this.kind = kind;
            this.place = place;
        }
    }

    private static List<Word> words(String text) {
        List<Word> words = new ArrayList<>();
        int i = 0;
        while (i < text.length()) {
            char c = text.charAt(i);
            int start = i;
            i++;
            if (c >= '0' && c <= '9') {
                while (i < text.length() && text.charAt(i) >= '0' && text.charAt(i) <= '9') {
                    i++;
                }
                words.add(new Word('n', text.substring(start, i), start));
            } else if (c != ' ') {
                words.add(new Word(c == 'n' || c == 'e' ? '?' : c, "", start));
            }
        }
        words.add(new Word('e', "", text.length()));
        return words;
    }

    private static World parsed(String text) throws Fault {
        World w = new World();
        List<Word> words = words(text);
        int i = 0;
        while (words.get(i).kind() != 'e') {
            Word head = words.get(i++);
            if (head.kind() == 'p') {
                int p = w.persons();
                if (p == 8) {
                    throw new Fault(3, head.place());
                }
                for (int n = 0; n < 2 * p - 1; n++) {
                    Word word = words.get(i++);
                    if (word.kind() != (n % 2 == 0 ? 'n' : ',')) {
                        throw new Fault(1, word.place());
                    }
                    if (n % 2 == 0) {
                        if (word.value() > 9) {
                            throw new Fault(2, word.place());
                        }
                        w.near.put(n / 2 + " " + p, word.value());
                    }
                }
                w.at.add(p);
            } else if (head.kind() == 'l') {
                if (w.lines.size() == 6) {
                    throw new Fault(3, head.place());
                }
                Word fare = words.get(i++);
                if (fare.kind() != 'n') {
                    throw new Fault(1, fare.place());
                }
                if (fare.value() > 3) {
                    throw new Fault(2, fare.place());
                }
                List<Integer> line = new ArrayList<>();
                while (line.size() < 2 || words.get(i).kind() == ',' && line.size() < 6) {
                    if (!line.isEmpty()) {
                        if (words.get(i).kind() != ',') {
                            throw new Fault(1, words.get(i).place());
                        }
                        i++;
                    }
                    Word x = words.get(i++);
                    if (x.kind() != 'n') {
                        throw new Fault(1, x.place());
                    }
                    if (x.value() >= w.persons()) {
                        throw new Fault(2, x.place());
                    }
                    if (line.contains(x.value())) {
                        throw new Fault(4, x.place());
                    }
                    line.add(x.value());
                }
                w.lines.add(line);
                w.fares.add(fare.value());
            } else {
                throw new Fault(1, head.place());
            }
            if (words.get(i).kind() != ';') {
                throw new Fault(1, words.get(i).place());
            }
            i++;
        }
        return w;
    }

    int town() {
        String all = text;
        text = "";
        try {
            world = parsed(all);
        } catch (Fault f) {
            fault = f.place;
            return -10 - f.kind;
        }
        fault = NONE;
        undone = new ArrayList<>();
        seen = new ArrayList<>();
        book = new ArrayList<>();
        images = new World[2];
        return world.persons();
    }

    int fault() {
        return fault;
    }

    private static int bits(Iterable<Integer> members) {
        int set = 0;
        for (int member : members) {
            set |= 1 << member;
        }
        return set;
    }

    int told(int what) {
        if (what < 0 || what > 10) {
            return OUTSIDE;
        }
        return new int[] {world.persons(), world.lines.size(), text.length(), world.days, world.rides, bits(world.dead),
            world.pairs(), world.sum(), seen.size(), book.size(), undone.size()}[what];
    }

    private boolean noPerson(int p) {
        return p < 0 || p >= world.persons();
    }

    private boolean noLine(int l) {
        return l < 0 || l >= world.lines.size();
    }

    private void deed() {
        undone.add(world.copy());
        if (undone.size() > 30) {
            undone.remove(0);
        }
    }

    int near(int p, int q) {
        return noPerson(p) || noPerson(q) ? UNKNOWN : world.near(p, q);
    }

    int at(int p) {
        return noPerson(p) ? UNKNOWN : world.at.get(p);
    }

    int line(int l, int i) {
        if (noLine(l)) {
            return UNKNOWN;
        }
        List<Integer> line = world.lines.get(l);
        if (i < -2 || i >= line.size()) {
            return OUTSIDE;
        }
        return i == -2 ? world.fares.get(l) : i == -1 ? line.size() : line.get(i);
    }

    int ride(int p, int l, int n) {
        if (noPerson(p) || noLine(l)) {
            return UNKNOWN;
        }
        if (n < 1 || n > 5) {
            return OUTSIDE;
        }
        if (world.dead.contains(p) || !world.leaves(l, world.at.get(p))) {
            return NOT;
        }
        deed();
        world.ride(p, l, n);
        return world.at.get(p);
    }

    int sleep(int p, int l) {
        if (noPerson(p) || noLine(l)) {
            return UNKNOWN;
        }
        if (world.dead.contains(p) || !world.leaves(l, world.at.get(p))) {
            return NOT;
        }
        deed();
        world.sleep(p, l);
        return world.near(p, world.at.get(p));
    }

    int morning(int n) {
        if (n < 1 || n > 30) {
            return OUTSIDE;
        }
        if (world.persons() == 0) {
            return NOT;
        }
        if (world.days > 9000) {
            return FULL;
        }
        for (int i = 0; i < n; i++) {
            deed();
            world.morning();
        }
        return world.sum();
    }

    int end(int l, int p) {
        if (noPerson(p) || noLine(l)) {
            return UNKNOWN;
        }
        List<Integer> line = world.lines.get(l);
        if (line.contains(p)) {
            return NOT;
        }
        deed();
        return world.lines.get(l).set(line.size() - 1, p);
    }

    int die(int p) {
        if (noPerson(p)) {
            return UNKNOWN;
        }
        if (world.dead.contains(p)) {
            return NOT;
        }
        deed();
        world.dead.add(p);
        return world.dead.size();
    }

    private int draw(int n) {
        seed = (seed * 1103515245L + 12345L) % 2147483648L;
        return (int) (seed / 65536 % n);
    }

    int drift(int n) {
        if (n < 1 || n > 30) {
            return OUTSIDE;
        }
        if (world.persons() == 0) {
            return NOT;
        }
        if (world.days > 9000) {
            return FULL;
        }
        for (int i = 0; i < n; i++) {
            deed();
            for (int p = 0; p < world.persons(); p++) {
                if (!world.dead.contains(p) && !world.lines.isEmpty()) {
                    int l = draw(world.lines.size());
                    boolean asleep = draw(20) == 0;
                    if (world.leaves(l, world.at.get(p))) {
                        if (asleep) {
                            world.sleep(p, l);
                        } else {
                            world.ride(p, l, 99);
                        }
                    }
                }
            }
            world.morning();
        }
        return world.rides;
    }

    int undo(int n) {
        if (n < 1 || n > 30) {
            return OUTSIDE;
        }
        if (undone.size() < n) {
            return NOT;
        }
        for (int i = 0; i < n; i++) {
            world = undone.remove(undone.size() - 1);
        }
        return world.days;
    }

    int ways(int p, int q, int what) {
        if (noPerson(p) || noPerson(q)) {
            return UNKNOWN;
        }
        if (what != 0 && what != 1) {
            return OUTSIDE;
        }
        if (world.dead.contains(p)) {
            return NOT;
        }
        int from = world.at.get(p);
        int fewest = world.walk(p, from, NONE).getOrDefault(q, NONE);
        if (what == 0) {
            return fewest;
        }
        if (fewest > 0) {
            for (int l = 0; l < world.lines.size(); l++) {
                for (int gate : world.onward(p, l, from)) {
                    if (world.walk(p, gate, NONE).getOrDefault(q, 99) == fewest - 1) {
                        return l;
                    }
                }
            }
        }
        return NONE;
    }

    int reached(int p) {
        if (noPerson(p)) {
            return UNKNOWN;
        }
        return world.dead.contains(p) ? NOT : bits(world.walk(p, world.at.get(p), NONE).keySet());
    }

    int cuts(int p, int q) {
        if (noPerson(p) || noPerson(q)) {
            return UNKNOWN;
        }
        if (world.dead.contains(p)) {
            return NOT;
        }
        int from = world.at.get(p);
        int set = 0;
        if (world.walk(p, from, NONE).containsKey(q)) {
            for (int l = 0; l < world.lines.size(); l++) {
                if (!world.walk(p, from, l).containsKey(q)) {
                    set |= 1 << l;
                }
            }
        }
        return set;
    }

    int lacks(int p, int q, int what) {
        if (noPerson(p) || noPerson(q) || p == q) {
            return UNKNOWN;
        }
        if (what != 0 && what != 1) {
            return OUTSIDE;
        }
        int best = 9999;
        int bestLine = NONE;
        for (int l = 0; l < world.lines.size(); l++) {
            List<Integer> line = world.lines.get(l);
            int from = line.indexOf(world.at.get(p));
            int to = line.indexOf(q);
            if (from < 0 || to <= from) {
                continue;
            }
            int lack = 0;
            for (int k = from + 1; k <= to; k++) {
                int less = k * world.fares.get(l) - world.near(p, line.get(k));
                lack += less > 0 ? less : 0;
            }
            if (lack < best) {
                best = lack;
                bestLine = l;
            }
        }
        return bestLine == NONE ? NONE : what == 0 ? best : bestLine;
    }

    int meet(int q) {
        if (noPerson(q)) {
            return UNKNOWN;
        }
        int set = 0;
        for (int p = 0; p < world.persons(); p++) {
            if (world.at.get(p) == q && !world.dead.contains(p)) {
                set += 1 << p;
            }
        }
        return set;
    }

    int bestEnd() {
        int best = NONE;
        for (int l = world.lines.size() - 1; l >= 0; l--) {
            for (int p = world.persons() - 1; p >= 0; p--) {
                World w = world.copy();
                List<Integer> line = w.lines.get(l);
                int last = line.remove(line.size() - 1);
                if (line.contains(p)) {
                    continue;
                }
                line.add(p);
                int pairs = w.pairs();
                if (best == NONE || pairs >= best / 100) {
                    best = pairs * 100 + l * 10 + p;
                }
                line.set(line.size() - 1, last);
            }
        }
        return best;
    }

    int warm() {
        World w = world.copy();
        for (int p = 0; p < w.persons(); p++) {
            w.at.set(p, p);
        }
        int mornings = 0;
        while (mornings < 99) {
            for (int p = 0; p < w.persons(); p++) {
                for (int l = 0; l < w.lines.size() && !w.dead.contains(p); l++) {
                    if (!w.onward(p, l, p).isEmpty()) {
                        w.ride(p, l, 99);
                        break;
                    }
                }
            }
            if (!w.morning()) {
                break;
            }
            mornings++;
        }
        return mornings;
    }

    int names(int n, int q) {
        if (n < 0 || n > 60 || q < 0 || q > 1000) {
            return OUTSIDE;
        }
        java.math.BigInteger odds = java.math.BigInteger.valueOf(1000000000);
        for (int i = 0; i < n; i++) {
            odds = odds.multiply(java.math.BigInteger.valueOf(1000 - q)).divide(java.math.BigInteger.valueOf(1000));
        }
        return odds.intValueExact();
    }

    int see(int l, int k) {
        if (noLine(l)) {
            return UNKNOWN;
        }
        if (k < 0 || k >= world.lines.get(l).size()) {
            return OUTSIDE;
        }
        if (seen.size() == 6) {
            return FULL;
        }
        seen.add(new int[] {l, k});
        return seen.size();
    }

    private int off(int v, int l) {
        int k = 0;
        while (k + 1 < world.lines.get(l).size() && v >= (k + 1) * world.fares.get(l)) {
            k++;
        }
        return k;
    }

    int could() {
        int set = 0;
        for (int v = 0; v < 10; v++) {
            int nearness = v;
            if (seen.stream().allMatch(s -> off(nearness, s[0]) == s[1])) {
                set |= 1 << v;
            }
        }
        return set;
    }

    int lookAt() {
        int set = could();
        int best = NONE;
        int bestPart = 99;
        for (int l = 0; l < world.lines.size(); l++) {
            Map<Integer, Integer> parts = new HashMap<>();
            for (int v = 0; v < 10; v++) {
                if ((set & 1 << v) != 0) {
                    parts.merge(off(v, l), 1, Integer::sum);
                }
            }
            int greatest = parts.values().stream().mapToInt(Integer::intValue).max().orElse(0);
            if (parts.size() > 1 && greatest < bestPart) {
                bestPart = greatest;
                best = l;
            }
        }
        return best;
    }

    int write(int p, int q) {
        if (noPerson(p) || noPerson(q)) {
            return UNKNOWN;
        }
        if (book.size() == 20) {
            return FULL;
        }
        book.add(new int[] {p, q});
        return book.size();
    }

    int judge() {
        for (int i = 0; i < book.size(); i++) {
            if (world.at.get(book.get(i)[0]) != book.get(i)[1]) {
                return i;
            }
        }
        return NONE;
    }

    int tear() {
        int had = seen.size() + book.size();
        seen.clear();
        book.clear();
        return had;
    }

    int seed(int v) {
        if (v < 0) {
            return OUTSIDE;
        }
        int was = (int) seed;
        seed = v;
        return was;
    }

    int keep(int i) {
        if (i != 0 && i != 1) {
            return UNKNOWN;
        }
        images[i] = world.copy();
        imageSeeds[i] = seed;
        undone.clear();
        return 1;
    }

    int goBack(int i) {
        if (i != 0 && i != 1) {
            return UNKNOWN;
        }
        if (images[i] == null) {
            return NOT;
        }
        world = images[i].copy();
        seed = imageSeeds[i];
        undone.clear();
        return 1;
    }
}
