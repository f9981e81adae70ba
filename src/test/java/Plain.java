import java.util.ArrayList;
import java.util.HashMap;
import java.util.List;
import java.util.Map;
import java.util.regex.Matcher;
import java.util.regex.Pattern;

/**
 * The document once more, in other ways than the class: slow, by trying all there is, with the
 * whole Java library. Every method bears the name and the parameters of the one it checks. It was
 * written by the same hand, so it finds slips, not wrong readings of the document.
 */
public final class Plain {
    private static final int NONE = -1;

    private record Piece(int one, int nought, int comes, int not) { }

    private record Room(int holds) { }

    private record Person(int by, int not, int parent) { }

    private record Fact(int k, boolean event, boolean so) { }

    /** One thing that a step changed, with what it was ahead. */
    private record Change(char kind, int which, int before) { }

    private interface Law {
        int of(int way, List<Boolean> came);
    }

    private record Clause(String word, Law law, int first, int second) { }

    private record Script(List<Clause> clauses) {
        int events() {
            return (int) clauses.stream().filter(c -> c.word().equals("event")).count();
        }
    }

    private static final class Fault extends RuntimeException {
        private static final long serialVersionUID = 1;
        final int number;
        final int place;

        Fault(int number, int place) {
            super(null, null, false, false);
            this.number = number;
            this.place = place;
        }
    }

    private static final class State {
        final List<Integer> is = new ArrayList<>();
        final List<Integer> odds = new ArrayList<>();
        final List<Piece> pieces = new ArrayList<>();
        final List<Integer> places = new ArrayList<>();
        final List<Room> rooms = new ArrayList<>();
        final List<Integer> ways = new ArrayList<>();
        final List<Person> people = new ArrayList<>();
        final List<Fact> facts = new ArrayList<>();
        final List<Script> texts = new ArrayList<>();
        final List<List<Change>> steps = new ArrayList<>();
        int theText = NONE;
        int x = 89;

        State copy() {
            State s = new State();
            s.is.addAll(is);
            s.odds.addAll(odds);
            s.pieces.addAll(pieces);
            s.places.addAll(places);
            s.rooms.addAll(rooms);
            s.ways.addAll(ways);
            s.people.addAll(people);
            s.facts.addAll(facts);
            s.texts.addAll(texts);
            s.steps.addAll(steps);
            s.theText = theText;
            s.x = x;
            return s;
        }
    }

    private State now = new State();
    private State image = new State();
    private String tape = "";
    private int faultNumber = NONE;
    private int faultPlace = NONE;

    private static boolean in(int value, int low, int high) {
        return low <= value && value <= high;
    }

    private static boolean told(int k, List<?> list) {
        return in(k, 0, list.size() - 1);
    }

    private boolean isWay(int way) {
        return in(way, 0, ways() - 1);
    }

    private int ways() {
        return (int) Math.pow(2, now.is.size());
    }

    public int choice(int is, int odds) {
        if (!in(is, 0, 1) || !in(odds, 0, 10) || now.is.size() == 8) return NONE;
        now.is.add(is);
        now.odds.add(odds);
        return now.is.size() - 1;
    }

    public int piece(int one, int nought, int comes, int not) {
        if (!in(one, 0, 255) || !in(nought, 0, 255) || !in(comes, 0, 1023) || !in(not, 0, 1023)) return NONE;
        if ((one & nought) > 0 || (comes & not) > 0 || now.pieces.size() == 10) return NONE;
        now.pieces.add(new Piece(one, nought, comes, not));
        now.places.add(NONE);
        return now.pieces.size() - 1;
    }

    public int room(int way, int holds) {
        if (!isWay(way) || !in(holds, 1, 9) || now.rooms.size() == 6) return NONE;
        now.rooms.add(new Room(holds));
        now.ways.add(way);
        return now.rooms.size() - 1;
    }

    public int person(int by, int not, int parent) {
        if (!in(by, -1, 9) || !in(not, -1, 9) || !in(parent, -1, now.people.size() - 1) || now.people.size() == 8) return NONE;
        now.people.add(new Person(by, not, parent));
        return now.people.size() - 1;
    }

    public int feed(int a, int b, int c, int d, int e) {
        if (tape.length() > 280) return NONE;
        for (int word : new int[] {a, b, c, d, e}) {
            tape += (char) (word >>> 24);
            tape += (char) (word >>> 16 & 255);
            tape += (char) (word >>> 8 & 255);
            tape += (char) (word & 255);
        }
        return tape.length();
    }

    public int end(int n) {
        if (!in(n, 0, tape.length())) return NONE;
        tape = tape.substring(0, n);
        return n;
    }

    public int text() {
        if (now.texts.size() == 4) return NONE;
        String bytes = tape;
        tape = "";
        try {
            now.texts.add(new Parse(bytes).script());
            faultNumber = 0;
            faultPlace = NONE;
            return now.texts.size() - 1;
        } catch (Fault f) {
            faultNumber = f.number;
            faultPlace = f.place;
            return NONE;
        }
    }

    public int fault(int what) {
        return what == 0 ? faultNumber : what == 1 ? faultPlace : NONE;
    }

    public boolean by(int text) {
        if (text != NONE && !told(text, now.texts)) return false;
        now.theText = text;
        return true;
    }

    private void step(List<Change> changes) {
        now.steps.add(List.copyOf(changes));
        if (now.steps.size() > 30) now.steps.remove(0);
    }

    private Change changeChoice(int k) {
        return new Change('c', k, now.is.set(k, 1 - now.is.get(k)));
    }

    private Change changeWay(int room, int way) {
        return new Change('w', room, now.ways.set(room, way));
    }

    private Change changePlace(int piece, int room) {
        return new Change('p', piece, now.places.set(piece, room));
    }

    private boolean hasRoom(int room) {
        return now.places.stream().filter(r -> r == room).count() < now.rooms.get(room).holds();
    }

    public int turn(int choice) {
        if (!told(choice, now.is)) return NONE;
        step(List.of(changeChoice(choice)));
        return was();
    }

    public boolean set(int room, int way) {
        if (!told(room, now.rooms) || !isWay(way) || now.ways.get(room) == way) return false;
        step(List.of(changeWay(room, way)));
        return true;
    }

    public boolean put(int piece, int room) {
        if (!told(piece, now.pieces) || !told(room, now.rooms) || now.places.get(piece) == room || !hasRoom(room)) return false;
        step(List.of(changePlace(piece, room)));
        return true;
    }

    public int take(int piece) {
        if (!told(piece, now.pieces) || now.places.get(piece) == NONE) return NONE;
        Change change = changePlace(piece, NONE);
        step(List.of(change));
        return change.before();
    }

    public int played(int text) {
        if (!told(text, now.texts)) return -2;
        List<Clause> clauses = now.texts.get(text).clauses();
        for (int i = 0; i < clauses.size(); i++) {
            Clause c = clauses.get(i);
            boolean can = switch (c.word()) {
                case "choice" -> choice(c.first(), c.second()) >= 0;
                case "room" -> room(c.first(), c.second()) >= 0;
                case "turn" -> turn(c.first()) >= 0;
                case "set" -> set(c.first(), c.second());
                case "put" -> put(c.first(), c.second());
                case "take" -> take(c.first()) >= 0;
                default -> true;
            };
            if (!can) return i;
        }
        return NONE;
    }

    public int years(int seed, int n) {
        if (!in(seed, 0, 9999) || !in(n, 1, 40)) return NONE;
        List<Change> changes = new ArrayList<>();
        changes.add(new Change('x', 0, now.x));
        now.x = seed * 2 + 89;
        for (int i = 0; i < n; i++) {
            int x = now.x;
            now.x = (x * 307 + 193) % 30319;
            int choices = now.is.size();
            int rooms = now.rooms.size();
            int pieces = now.pieces.size();
            if (x % 4 == 0 && choices > 0) changes.add(changeChoice(x % choices));
            if (x % 4 == 1 && rooms > 0) changes.add(changeWay(x % rooms, x / 4 % ways()));
            if (x % 4 == 2 && rooms > 0 && pieces > 0 && hasRoom(x % rooms) && now.places.get(x % pieces) != x % rooms) {
                changes.add(changePlace(x % pieces, x % rooms));
            }
            if (x % 4 == 3 && pieces > 0 && now.places.get(x % pieces) != NONE) changes.add(changePlace(x % pieces, NONE));
        }
        step(changes);
        return was();
    }

    public int undo() {
        if (now.steps.isEmpty()) return NONE;
        List<Change> changes = now.steps.remove(now.steps.size() - 1);
        for (int i = changes.size() - 1; i >= 0; i--) {
            Change c = changes.get(i);
            switch (c.kind()) {
                case 'c' -> now.is.set(c.which(), c.before());
                case 'w' -> now.ways.set(c.which(), c.before());
                case 'p' -> now.places.set(c.which(), c.before());
                default -> now.x = c.before();
            }
        }
        return now.steps.size();
    }

    public int ofChoice(int choice, int what) {
        if (!told(choice, now.is) || !in(what, 0, 1)) return NONE;
        return what == 0 ? now.is.get(choice) : now.odds.get(choice);
    }

    public int ofPiece(int piece, int what) {
        if (!told(piece, now.pieces) || !in(what, 0, 4)) return -2;
        Piece p = now.pieces.get(piece);
        return new int[] {p.one(), p.nought(), p.comes(), p.not(), now.places.get(piece)}[what];
    }

    public int ofRoom(int room, int what) {
        if (!told(room, now.rooms) || !in(what, 0, 2)) return NONE;
        int bits = 0;
        for (int p = 0; p < now.pieces.size(); p++) if (now.places.get(p) == room) bits += 1 << p;
        return new int[] {now.ways.get(room), now.rooms.get(room).holds(), bits}[what];
    }

    public int was() {
        int way = 0;
        for (int k = 0; k < now.is.size(); k++) way += now.is.get(k) << k;
        return way;
    }

    /** Of one way by one text: events as bits, and 4096 if it may be. */
    private int outcome(int text, int way) {
        if (text == NONE) return 4096;
        List<Boolean> came = new ArrayList<>();
        boolean may = true;
        for (Clause c : now.texts.get(text).clauses()) {
            if (c.word().equals("may")) may = c.law().of(way, came) != 0;
            if (c.word().equals("event")) came.add(c.law().of(way, came) != 0);
        }
        int bits = may ? 4096 : 0;
        for (int e = 0; e < came.size(); e++) if (came.get(e)) bits += 1 << e;
        return bits;
    }

    private int[] events(int text) {
        int[] all = new int[ways()];
        for (int way = 0; way < all.length; way++) all[way] = outcome(text, way) & 1023;
        return all;
    }

    private boolean[] mays() {
        boolean[] all = new boolean[ways()];
        for (int way = 0; way < all.length; way++) all[way] = (outcome(now.theText, way) & 4096) != 0;
        return all;
    }

    private boolean agree(int piece, int way, int events) {
        Piece p = now.pieces.get(piece);
        for (int k = 0; k < 8; k++) {
            boolean is = (way >> k & 1) == 1;
            if ((p.one() >> k & 1) == 1 && !is || (p.nought() >> k & 1) == 1 && is) return false;
        }
        for (int e = 0; e < 10; e++) {
            boolean comes = (events >> e & 1) == 1;
            if ((p.comes() >> e & 1) == 1 && !comes || (p.not() >> e & 1) == 1 && comes) return false;
        }
        return true;
    }

    public int agrees(int piece, int way) {
        if (!told(piece, now.pieces) || !isWay(way)) return NONE;
        return agree(piece, way, follows(way)) ? 1 : 0;
    }

    public int follows(int way) {
        return isWay(way) ? outcome(now.theText, way) & 1023 : NONE;
    }

    public int mayBe(int way) {
        return isWay(way) ? outcome(now.theText, way) >> 12 : NONE;
    }

    public int cannot() {
        for (int p = 0; p < now.pieces.size(); p++) {
            if (now.places.get(p) != NONE && agrees(p, now.ways.get(now.places.get(p))) == 0) return p;
        }
        return NONE;
    }

    private boolean isSet(int pieces) {
        return in(pieces, 0, (1 << now.pieces.size()) - 1);
    }

    public int most(int pieces, boolean way) {
        if (!isSet(pieces)) return NONE;
        int[] events = events(now.theText);
        boolean[] may = mays();
        int best = NONE;
        int most = NONE;
        for (int w = ways() - 1; w >= 0; w--) {
            int count = 0;
            for (int p = 0; p < 10; p++) if ((pieces >> p & 1) == 1 && agree(p, w, events[w])) count++;
            if (may[w] && count >= most) {
                most = count;
                best = w;
            }
        }
        return way ? best : most;
    }

    public int clash(int pieces) {
        if (!isSet(pieces)) return NONE;
        int[] events = events(now.theText);
        boolean[] may = mays();
        for (int size = 0; size <= 10; size++) {
            for (int set = 0; set <= pieces; set++) {
                if ((set | pieces) != pieces || Integer.bitCount(set) != size) continue;
                boolean some = false;
                for (int w = 0; w < ways() && !some; w++) {
                    boolean all = may[w];
                    for (int p = 0; p < 10 && all; p++) if ((set >> p & 1) == 1) all = agree(p, w, events[w]);
                    some = all;
                }
                if (!some) return set;
            }
        }
        return NONE;
    }

    public int fact(int k, boolean event, boolean so) {
        if (k == NONE) {
            now.facts.clear();
            return 0;
        }
        if (event ? !in(k, 0, 9) : !told(k, now.is)) return -2;
        if (now.facts.size() == 8) return -2;
        now.facts.add(new Fact(k, event, so));
        return now.facts.size();
    }

    private List<Integer> remaining() {
        List<Integer> list = new ArrayList<>();
        for (int way = 0; way < ways(); way++) {
            boolean fits = mayBe(way) == 1;
            for (Fact f : now.facts) {
                int bit = (f.event() ? follows(way) : way) >> f.k() & 1;
                fits &= bit == (f.so() ? 1 : 0);
            }
            if (fits) list.add(way);
        }
        return list;
    }

    public int left(int i) {
        List<Integer> list = remaining();
        return i == NONE ? list.size() : told(i, list) ? list.get(i) : NONE;
    }

    public int sure(boolean events) {
        int bits = 0;
        for (int k = 0; k < (events ? 10 : now.is.size()); k++) {
            int ones = 0;
            int noughts = 0;
            for (int way : remaining()) {
                if (((events ? follows(way) : way) >> k & 1) == 1) ones++; else noughts++;
            }
            if (ones == 0 || noughts == 0) bits += 1 << k;
        }
        return bits;
    }

    public int ask(int event) {
        if (!in(event, 0, 9)) return NONE;
        List<Integer> list = remaining();
        int[] events = events(now.theText);
        for (int size = 0; size <= 8; size++) {
            for (int set = 0; set < ways(); set++) {
                if (Integer.bitCount(set) != size) continue;
                Map<Integer, Integer> known = new HashMap<>();
                boolean tells = true;
                for (int way : list) {
                    int comes = events[way] >> event & 1;
                    Integer other = known.put(way & set, comes);
                    tells &= other == null || other == comes;
                }
                if (tells) return set;
            }
        }
        throw new IllegalStateException("all choices tell everything");
    }

    public int halves() {
        List<Integer> list = remaining();
        int best = NONE;
        double nearest = 1e9;
        for (int k = 0; k < now.is.size(); k++) {
            int ones = 0;
            for (int way : list) ones += way >> k & 1;
            if (ones == 0 || ones == list.size()) continue;
            double far = Math.abs(ones - list.size() / 2.0);
            if (far < nearest) {
                nearest = far;
                best = k;
            }
        }
        return best;
    }

    public int leanOn(int choice) {
        if (!told(choice, now.is)) return NONE;
        int[] events = events(now.theText);
        int bits = 0;
        for (int e = 0; e < 10; e++) {
            for (int way = 0; way < ways(); way++) {
                if ((events[way] >> e & 1) != (events[way ^ 1 << choice] >> e & 1)) bits |= 1 << e;
            }
        }
        return bits;
    }

    public int agreeIn(int piece) {
        if (!told(piece, now.pieces)) return NONE;
        int count = 0;
        for (int way = 0; way < ways(); way++) if (mayBe(way) == 1 && agrees(piece, way) == 1) count++;
        return count;
    }

    public int elders(int person) {
        if (!told(person, now.people)) return NONE;
        int parent = now.people.get(person).parent();
        return parent == NONE ? 0 : 1 << parent | elders(parent);
    }

    public int nextDoor() {
        int twos = 0;
        for (int a = 0; a < now.rooms.size(); a++) {
            for (int b = 0; b < a; b++) {
                int unlike = 0;
                for (int k = 0; k < 8; k++) if ((now.ways.get(a) >> k & 1) != (now.ways.get(b) >> k & 1)) unlike++;
                if (unlike == 1) twos++;
            }
        }
        return twos;
    }

    public int empty() {
        int bits = 0;
        for (int r = 0; r < now.rooms.size(); r++) if (!now.places.contains(r)) bits += 1 << r;
        return bits;
    }

    public int least(int event, boolean comes) {
        if (!in(event, 0, 9)) return NONE;
        for (int size = 0; size <= 8; size++) {
            for (int set = 0; set < ways(); set++) {
                int way = was() ^ set;
                if (Integer.bitCount(set) == size && mayBe(way) == 1 && (follows(way) >> event & 1) == (comes ? 1 : 0)) return set;
            }
        }
        return NONE;
    }

    public int noMatter(int event) {
        if (!in(event, 0, 9)) return NONE;
        int bits = 0;
        for (int k = 0; k < now.is.size(); k++) if ((leanOn(k) >> event & 1) == 0) bits += 1 << k;
        return bits;
    }

    private static int lowest(long upper, long lower, boolean low) {
        for (long d = lower; d > 1; d--) {
            if (lower % d == 0 && upper % d == 0) return (int) (low ? lower / d : upper / d);
        }
        return (int) (low ? lower : upper);
    }

    public int turnsIt(int choice, int event, boolean low) {
        if (!told(choice, now.is) || !in(event, 0, 9)) return NONE;
        int count = 0;
        int[] events = events(now.theText);
        for (int way = 0; way < ways(); way++) {
            if ((events[way] >> event & 1) != (events[way ^ 1 << choice] >> event & 1)) count++;
        }
        return lowest(count, ways(), low);
    }

    private boolean isThere(int person, int events) {
        Person p = now.people.get(person);
        return (p.by() == NONE || (events >> p.by() & 1) == 1) && (p.not() == NONE || (events >> p.not() & 1) == 0)
            && (p.parent() == NONE || isThere(p.parent(), events));
    }

    public int there(int person, int way) {
        if (!told(person, now.people) || !isWay(way)) return NONE;
        return isThere(person, follows(way)) ? 1 : 0;
    }

    public int thereIn(int person) {
        if (!told(person, now.people)) return NONE;
        return (int) remaining().stream().filter(way -> there(person, way) == 1).count();
    }

    public int lookedFor(int way) {
        if (!isWay(way)) return NONE;
        int bits = 0;
        for (int p = 0; p < now.people.size(); p++) if (there(p, way) == 1 && there(p, was()) == 0) bits += 1 << p;
        return bits;
    }

    /** Paths by layers: those that came first are the lowest of their length. */
    public int walk(int from, int to, int i) {
        if (!isWay(from) || !isWay(to) || i < -1) return -2;
        boolean[] may = mays();
        if (!may[from] || !may[to]) return -2;
        boolean[] seen = new boolean[ways()];
        List<List<Integer>> layer = new ArrayList<>();
        List<Integer> ends = new ArrayList<>();
        layer.add(List.of());
        ends.add(from);
        seen[from] = true;
        while (!layer.isEmpty()) {
            int at = ends.indexOf(to);
            if (at >= 0) {
                List<Integer> path = layer.get(at);
                return i == NONE ? path.size() : told(i, path) ? path.get(i) : -2;
            }
            List<List<Integer>> next = new ArrayList<>();
            List<Integer> nextEnds = new ArrayList<>();
            for (int p = 0; p < layer.size(); p++) {
                for (int k = 0; k < now.is.size(); k++) {
                    int way = ends.get(p) ^ 1 << k;
                    if (!may[way] || seen[way]) continue;
                    seen[way] = true;
                    List<Integer> path = new ArrayList<>(layer.get(p));
                    path.add(k);
                    next.add(path);
                    nextEnds.add(way);
                }
            }
            layer = next;
            ends = nextEnds;
        }
        return -2;
    }

    public int differ(int one, int other, int way) {
        if (!told(one, now.texts) || !told(other, now.texts) || !isWay(way)) return NONE;
        for (int e = 0; e < 10; e++) {
            if ((outcome(one, way) >> e & 1) != (outcome(other, way) >> e & 1)) return e;
        }
        return NONE;
    }

    public int unlike(int one, int other) {
        if (!told(one, now.texts) || !told(other, now.texts)) return NONE;
        int count = 0;
        for (int way = 0; way < ways(); way++) if (differ(one, other, way) != NONE) count++;
        return count;
    }

    public int gifts() {
        int bits = 0;
        for (int p = 0; p < now.pieces.size(); p++) bits += agrees(p, was()) << p;
        return bits;
    }

    private long weight(int way) {
        long product = 1;
        for (int k = 0; k < now.is.size(); k++) product *= (way >> k & 1) == 1 ? now.odds.get(k) : 10 - now.odds.get(k);
        return product;
    }

    private static int lowestOfTens(long upper, int tens, boolean low) {
        long lower = 1;
        for (int i = 0; i < tens; i++) lower *= 10;
        for (int prime : new int[] {2, 5}) {
            while (lower % prime == 0 && upper % prime == 0) {
                lower /= prime;
                upper /= prime;
            }
        }
        return (int) (low ? lower : upper);
    }

    public int chance(int event, boolean low) {
        if (!in(event, 0, 9)) return NONE;
        long sum = 0;
        for (int way = 0; way < ways(); way++) if ((follows(way) >> event & 1) == 1) sum += weight(way);
        return lowestOfTens(sum, now.is.size(), low);
    }

    public int chanceOf(int way, boolean low) {
        return isWay(way) ? lowestOfTens(weight(way), now.is.size(), low) : NONE;
    }

    public int nearly(int event) {
        if (!in(event, 0, 9)) return NONE;
        int best = NONE;
        for (int way = 0; way < ways(); way++) {
            if (way == was() || (follows(way) >> event & 1) == (follows(was()) >> event & 1)) continue;
            if (best == NONE || weight(way) > weight(best)) best = way;
        }
        return best;
    }

    public int laidOut(int pieces, int piece) {
        if (!isSet(pieces) || !in(Integer.bitCount(pieces), 1, 6)) return -2;
        if (piece != NONE && (!told(piece, now.pieces) || (pieces >> piece & 1) == 0)) return -2;
        List<Integer> set = new ArrayList<>();
        for (int p = 0; p < 10; p++) if ((pieces >> p & 1) == 1) set.add(p);
        int rooms = now.rooms.size();
        boolean[][] fits = new boolean[set.size()][rooms];
        for (int p = 0; p < set.size(); p++) for (int r = 0; r < rooms; r++) fits[p][r] = agrees(set.get(p), now.ways.get(r)) == 1;
        int[] digits = new int[set.size()];
        int[] best = null;
        int most = -1;
        // counts through all layings, the lowest first; digit 'rooms' is none
        while (true) {
            int[] used = new int[rooms];
            int laid = 0;
            boolean can = true;
            for (int p = 0; p < digits.length && can; p++) {
                if (digits[p] == rooms) continue;
                laid++;
                can = fits[p][digits[p]] && ++used[digits[p]] <= now.rooms.get(digits[p]).holds();
            }
            if (can && laid > most) {
                most = laid;
                best = digits.clone();
            }
            int at = digits.length - 1;
            while (at >= 0 && digits[at] == rooms) digits[at--] = 0;
            if (at < 0) break;
            digits[at]++;
        }
        if (piece == NONE) return most;
        int room = best[set.indexOf(piece)];
        return room == rooms ? NONE : room;
    }

    public int alike(int way) {
        if (!isWay(way)) return NONE;
        int count = 0;
        for (int w = 0; w < ways(); w++) if (follows(w) == follows(way)) count++;
        return count;
    }

    public int image() {
        image = now.copy();
        return was();
    }

    public int back() {
        now = image.copy();
        return was();
    }

    public int about(int what) {
        return switch (what) {
            case 0 -> now.is.size();
            case 1 -> now.pieces.size();
            case 2 -> now.rooms.size();
            case 3 -> now.people.size();
            case 4 -> now.x;
            case 5 -> now.texts.size();
            case 6 -> now.theText;
            case 7 -> now.steps.size();
            case 8 -> now.facts.size();
            case 9 -> now.theText == NONE ? 0 : now.texts.get(now.theText).events();
            case 10 -> tape.length();
            default -> -2;
        };
    }

    /** Reads a text into laws that are functions. */
    private static final class Parse {
        private static final Pattern TOKEN = Pattern.compile("[a-zA-Z]+|[0-9]+|<=|>=|[-<>=#+*/(),;]");
        private final String bytes;
        private int start;
        private String token;
        private int next;
        private int told;
        private int open;

        Parse(String bytes) {
            this.bytes = bytes;
            advance();
        }

        private void advance() {
            start = next;
            while (start < bytes.length() && (bytes.charAt(start) == ' ' || bytes.charAt(start) == '\n')) start++;
            if (start == bytes.length()) {
                token = "";
                next = start;
                return;
            }
            Matcher m = TOKEN.matcher(bytes).region(start, bytes.length());
            token = m.lookingAt() ? m.group() : "?";
            next = start + token.length();
        }

        private Fault fault(int number) {
            return new Fault(number, start);
        }

        private boolean is(String what) {
            return token.equals(what);
        }

        private void need(String what) {
            if (!is(what)) throw fault(1);
            advance();
        }

        private int number(int low, int high) {
            int value = peek();
            if (value < 0) throw fault(1);
            if (!in(value, low, high)) throw fault(2);
            advance();
            return value;
        }

        private int peek() {
            if (!token.matches("[0-9]+")) return NONE;
            java.math.BigInteger value = new java.math.BigInteger(token);
            return value.bitLength() > 20 ? 1 << 20 : value.intValue();
        }

        Script script() {
            List<Clause> clauses = new ArrayList<>();
            boolean may = false;
            while (!is("")) {
                String word = token;
                if (!List.of("event", "may", "choice", "room", "turn", "set", "put", "take").contains(word)) throw fault(1);
                if (word.equals("may") && may || word.equals("event") && told == 10) throw fault(4);
                if (clauses.size() == 24) throw fault(6);
                advance();
                Clause clause = switch (word) {
                    case "choice" -> pair(word, 0, 1, "odds", 0, 10);
                    case "room" -> pair(word, 0, 255, "for", 1, 9);
                    case "set" -> pair(word, 0, 5, "to", 0, 255);
                    case "put" -> pair(word, 0, 9, "in", 0, 5);
                    case "turn" -> new Clause(word, null, number(0, 7), 0);
                    case "take" -> new Clause(word, null, number(0, 9), 0);
                    default -> new Clause(word, whole(), 0, 0);
                };
                need(";");
                clauses.add(clause);
                may |= word.equals("may");
                if (word.equals("event")) told++;
            }
            return new Script(List.copyOf(clauses));
        }

        private Clause pair(String word, int low, int high, String between, int low2, int high2) {
            int first = number(low, high);
            need(between);
            return new Clause(word, null, first, number(low2, high2));
        }

        private Law whole() {
            Law first = either();
            if (!is("so")) return first;
            advance();
            Law rest = whole();
            return (way, came) -> first.of(way, came) == 0 || rest.of(way, came) != 0 ? 1 : 0;
        }

        private Law either() {
            Law law = both();
            while (is("or")) {
                advance();
                Law one = law;
                Law other = both();
                law = (way, came) -> one.of(way, came) != 0 || other.of(way, came) != 0 ? 1 : 0;
            }
            return law;
        }

        private Law both() {
            Law law = asked();
            while (is("and")) {
                advance();
                Law one = law;
                Law other = asked();
                law = (way, came) -> one.of(way, came) != 0 && other.of(way, came) != 0 ? 1 : 0;
            }
            return law;
        }

        private void opens() {
            if (open == 8) throw fault(3);
            open++;
            advance();
        }

        private Law asked() {
            if (is("not")) {
                opens();
                Law law = asked();
                open--;
                return (way, came) -> law.of(way, came) != 0 ? 0 : 1;
            }
            if (is("was")) {
                advance();
                int k = number(0, 7);
                return (way, came) -> way >> k & 1;
            }
            if (is("came")) {
                advance();
                if (in(peek(), 0, 9) && peek() >= told) throw fault(5);
                int e = number(0, 9);
                return (way, came) -> came.get(e) ? 1 : 0;
            }
            Law one = sum();
            String sign = token;
            if (!List.of("<", "<=", ">", ">=", "=", "#").contains(sign)) throw fault(1);
            advance();
            Law other = sum();
            return (way, came) -> {
                int order = Integer.compare(one.of(way, came), other.of(way, came));
                boolean so = switch (sign) {
                    case "<" -> order < 0;
                    case "<=" -> order <= 0;
                    case ">" -> order > 0;
                    case ">=" -> order >= 0;
                    case "=" -> order == 0;
                    default -> order != 0;
                };
                return so ? 1 : 0;
            };
        }

        private static int held(long value) {
            return (int) Math.max(-1000000, Math.min(1000000, value));
        }

        private Law sum() {
            Law law = product();
            while (is("+") || is("-")) {
                long sign = is("+") ? 1 : -1;
                advance();
                Law one = law;
                Law other = product();
                law = (way, came) -> held(one.of(way, came) + sign * other.of(way, came));
            }
            return law;
        }

        private Law product() {
            Law law = one();
            while (is("*") || is("/")) {
                boolean times = is("*");
                advance();
                Law one = law;
                Law other = one();
                law = (way, came) -> {
                    long a = one.of(way, came);
                    long b = other.of(way, came);
                    return held(times ? a * b : b == 0 ? 0 : a / b);
                };
            }
            return law;
        }

        private Law one() {
            if (peek() >= 0) {
                int value = number(0, 9999);
                return (way, came) -> value;
            }
            switch (token) {
                case "way":
                    advance();
                    return (way, came) -> way;
                case "many":
                    advance();
                    return (way, came) -> Integer.bitCount(way);
                case "done":
                    advance();
                    return (way, came) -> (int) came.stream().filter(c -> c).count();
                case "(":
                    opens();
                    Law inner = sum();
                    need(")");
                    open--;
                    return inner;
                case "-":
                    opens();
                    Law negated = one();
                    open--;
                    return (way, came) -> -negated.of(way, came);
                case "count":
                    opens();
                    Law counted = count();
                    open--;
                    return counted;
                default:
                    throw fault(1);
            }
        }

        private Law count() {
            need("(");
            List<Law> laws = new ArrayList<>();
            laws.add(either());
            while (is(",")) {
                if (laws.size() == 6) throw fault(7);
                advance();
                laws.add(either());
            }
            need(")");
            return (way, came) -> (int) laws.stream().filter(law -> law.of(way, came) != 0).count();
        }
    }
}
