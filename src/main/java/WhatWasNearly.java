import java.util.Arrays;

/**
 * A museum of the other way it could have gone. What each call answers stands in the document,
 * DOC.md; its words (WAY, WAS, LEFT, TOLD ..) mean the same here. All rows are made in the
 * constructors: no call makes an object.
 */
public final class WhatWasNearly {

    public static final int NONE = -1;

    private static final int OTHERS = -2;
    private static final int MOST_CHOICES = 8;
    private static final int MOST_WAYS = 256;
    private static final int ALL_CHOICES = 255;
    private static final int MOST_ODDS = 10;
    private static final int MOST_PIECES = 10;
    private static final int MOST_SETS = 1024;
    private static final int MOST_EVENTS = 10;
    private static final int ALL_EVENTS = 1023;
    private static final int MOST_ROOMS = 6;
    private static final int MOST_HELD = 9;
    private static final int MOST_PEOPLE = 8;
    private static final int MOST_FACTS = 8;
    private static final int MOST_LAID = 6;
    private static final int MOST_STEPS = 30;
    private static final int MOST_TEXTS = 4;
    private static final int MOST_CLAUSES = 24;
    private static final int MOST_BYTES = 300;
    private static final int MOST_NUMBER = 9999;
    private static final int MOST_SEED = 9999;
    private static final int MOST_YEARS = 40;
    private static final int FIRST_X = 89;

    /* Kinds of tokens, and of what a law is made of; a sign of one byte is its own kind. */
    private static final int BAD = 0;
    private static final int END = 1;
    private static final int NUMBER = 2;
    private static final int AT_MOST = 3;
    private static final int AT_LEAST = 4;
    private static final int NEGATED = 5;
    private static final int EVENT = 200;
    private static final int MAY = 201;
    private static final int CHOICE = 202;
    private static final int ODDS = 203;
    private static final int ROOM = 204;
    private static final int FOR = 205;
    private static final int TURN = 206;
    private static final int SET = 207;
    private static final int TO = 208;
    private static final int PUT = 209;
    private static final int IN = 210;
    private static final int TAKE = 211;
    private static final int SO = 212;
    private static final int OR = 213;
    private static final int AND = 214;
    private static final int NOT = 215;
    private static final int WAS = 216;
    private static final int CAME = 217;
    private static final int COUNT = 218;
    private static final int WAY = 219;
    private static final int MANY = 220;
    private static final int DONE = 221;

    private final Museum museum;
    private final Museum image;
    private final Tape tape;
    private final Reader reader;
    private final Laws laws;
    private final MissingRoom missing;
    private final Otherwise otherwise;
    private final Collection collection;

    public WhatWasNearly() {
        museum = new Museum();
        image = new Museum();
        tape = new Tape();
        reader = new Reader(tape);
        laws = new Laws(museum);
        missing = new MissingRoom(museum, laws);
        otherwise = new Otherwise(museum, laws);
        collection = new Collection(museum, laws);
    }

    public int choice(int is, int odds) {
        int number = museum.tellChoice(is, odds);
        laws.keepUp();
        return number;
    }

    public int piece(int one, int nought, int comes, int not) {
        return museum.tellPiece(one, nought, comes, not);
    }

    public int room(int way, int holds) {
        return museum.tellRoom(way, holds);
    }

    public int person(int by, int not, int parent) {
        return museum.tellPerson(by, not, parent);
    }

    public int feed(int a, int b, int c, int d, int e) {
        if (!tape.hasSpace()) {
            return NONE;
        }
        tape.append(a);
        tape.append(b);
        tape.append(c);
        tape.append(d);
        tape.append(e);
        return tape.length;
    }

    public int end(int n) {
        return tape.cut(n) ? n : NONE;
    }

    public int text() {
        int number = museum.texts;
        if (!isOneOf(number, MOST_TEXTS)) {
            return NONE;
        }
        boolean faultless = reader.read(laws.texts[number]);
        tape.cut(0);
        if (!faultless) {
            return NONE;
        }
        museum.texts = number + 1;
        laws.keepUp();
        return number;
    }

    public int fault(int what) {
        if (what == 0) {
            return reader.fault;
        }
        return what == 1 ? reader.place : NONE;
    }

    public boolean by(int text) {
        if (text != NONE && !isOneOf(text, museum.texts)) {
            return false;
        }
        museum.ruling = text;
        return true;
    }

    public int turn(int choice) {
        return museum.turnChoice(choice);
    }

    public boolean set(int room, int way) {
        return museum.setRoom(room, way);
    }

    public boolean put(int piece, int room) {
        return museum.putPiece(piece, room);
    }

    public int take(int piece) {
        return museum.takePiece(piece);
    }

    public int played(int text) {
        if (!isOneOf(text, museum.texts) || !isOneOf(text, MOST_TEXTS)) {
            return OTHERS;
        }
        int stopped = museum.play(laws.texts[text]);
        laws.keepUp();
        return stopped;
    }

    public int years(int seed, int n) {
        return museum.passYears(seed, n);
    }

    public int undo() {
        return museum.takeBack();
    }

    public int ofChoice(int choice, int what) {
        if (!isOneOf(choice, museum.live.choices)) {
            return NONE;
        }
        switch (what) {
            case 0: return museum.live.was >> choice & 1;
            case 1: return museum.odds[choice];
            default: return NONE;
        }
    }

    public int ofPiece(int piece, int what) {
        if (!isOneOf(piece, museum.live.pieces)) {
            return OTHERS;
        }
        Needs needs = museum.needs[piece];
        switch (what) {
            case 0: return needs.one;
            case 1: return needs.nought;
            case 2: return needs.comes;
            case 3: return needs.not;
            case 4: return museum.live.places[piece];
            default: return OTHERS;
        }
    }

    public int ofRoom(int room, int what) {
        if (!isOneOf(room, museum.live.rooms)) {
            return NONE;
        }
        switch (what) {
            case 0: return museum.live.ways[room];
            case 1: return museum.holds[room];
            case 2: return museum.live.piecesIn(room);
            default: return NONE;
        }
    }

    public int was() {
        return museum.live.was;
    }

    public int agrees(int piece, int way) {
        if (!isOneOf(piece, museum.live.pieces) || !museum.isWay(way)) {
            return NONE;
        }
        return collection.fits(piece, way) ? 1 : 0;
    }

    public int follows(int way) {
        return museum.isWay(way) ? laws.events(way) : NONE;
    }

    public int mayBe(int way) {
        if (!museum.isWay(way)) {
            return NONE;
        }
        return laws.allows(way) ? 1 : 0;
    }

    public int cannot() {
        return collection.misplaced();
    }

    public int most(int pieces, boolean way) {
        if (!museum.isPieceSet(pieces)) {
            return NONE;
        }
        int best = collection.bestWay(pieces);
        if (best == NONE || way) {
            return best;
        }
        return Integer.bitCount(collection.fitting(pieces, best));
    }

    public int clash(int pieces) {
        return museum.isPieceSet(pieces) ? collection.fewestAtOdds(pieces) : NONE;
    }

    public int fact(int k, boolean event, boolean so) {
        return museum.tellFact(k, event, so);
    }

    public int left(int i) {
        return i == NONE ? missing.howMany() : missing.wayAt(i);
    }

    public int sure(boolean events) {
        return events ? missing.eventsAlike() : missing.choicesAlike();
    }

    public int ask(int event) {
        return isOneOf(event, MOST_EVENTS) ? missing.fewestToAsk(event) : NONE;
    }

    public int halves() {
        return missing.nearestHalf();
    }

    public int leanOn(int choice) {
        return isOneOf(choice, museum.live.choices) ? otherwise.changedBy(choice) : NONE;
    }

    public int agreeIn(int piece) {
        return isOneOf(piece, museum.live.pieces) ? collection.waysFor(piece) : NONE;
    }

    public int elders(int person) {
        return isOneOf(person, museum.people) ? museum.eldersOf(person) : NONE;
    }

    public int nextDoor() {
        return museum.live.neighbours();
    }

    public int empty() {
        return museum.live.emptyRooms();
    }

    public int least(int event, boolean comes) {
        return isOneOf(event, MOST_EVENTS) ? otherwise.fewestTurned(event, comes) : NONE;
    }

    public int noMatter(int event) {
        return isOneOf(event, MOST_EVENTS) ? otherwise.idleFor(event) : NONE;
    }

    public int turnsIt(int choice, int event, boolean low) {
        if (!isOneOf(choice, museum.live.choices) || !isOneOf(event, MOST_EVENTS)) {
            return NONE;
        }
        return inLowestTerms(otherwise.waysTurned(choice, event), museum.wayCount(), low);
    }

    public int there(int person, int way) {
        if (!isOneOf(person, museum.people) || !museum.isWay(way)) {
            return NONE;
        }
        return museum.isThere(person, laws.events(way)) ? 1 : 0;
    }

    public int thereIn(int person) {
        return isOneOf(person, museum.people) ? missing.waysWith(person) : NONE;
    }

    public int lookedFor(int way) {
        if (!museum.isWay(way)) {
            return NONE;
        }
        int here = museum.peopleThere(laws.events(museum.live.was));
        return museum.peopleThere(laws.events(way)) & ~here;
    }

    public int walk(int from, int to, int i) {
        if (!museum.isWay(from) || !museum.isWay(to) || i < NONE) {
            return OTHERS;
        }
        otherwise.measure(to);
        return i == NONE ? otherwise.doorsFrom(from) : otherwise.doorAt(from, i);
    }

    public int differ(int one, int other, int way) {
        if (!isOneOf(one, museum.texts) || !isOneOf(other, museum.texts) || !museum.isWay(way)) {
            return NONE;
        }
        return lowestOf(laws.eventsBy(one, way) ^ laws.eventsBy(other, way));
    }

    public int unlike(int one, int other) {
        if (!isOneOf(one, museum.texts) || !isOneOf(other, museum.texts)) {
            return NONE;
        }
        return laws.waysUnlike(one, other);
    }

    public int gifts() {
        return collection.fitting(museum.allPieces(), museum.live.was);
    }

    public int chance(int event, boolean low) {
        if (!isOneOf(event, MOST_EVENTS)) {
            return NONE;
        }
        return inLowestTerms(otherwise.weightWith(event), otherwise.wholeWeight(), low);
    }

    public int chanceOf(int way, boolean low) {
        if (!museum.isWay(way)) {
            return NONE;
        }
        return inLowestTerms(otherwise.weight(way), otherwise.wholeWeight(), low);
    }

    public int nearly(int event) {
        return isOneOf(event, MOST_EVENTS) ? otherwise.likeliestOther(event) : NONE;
    }

    public int laidOut(int pieces, int piece) {
        int size = Integer.bitCount(pieces);
        if (!museum.isPieceSet(pieces) || size < 1 || size > MOST_LAID) {
            return OTHERS;
        }
        if (piece == NONE) {
            return collection.mostLaid(pieces);
        }
        if (!isOneOf(piece, museum.live.pieces) || (pieces >> piece & 1) == 0) {
            return OTHERS;
        }
        return collection.roomLaid(pieces, piece);
    }

    public int alike(int way) {
        return museum.isWay(way) ? laws.waysAlike(way) : NONE;
    }

    public int image() {
        image.copyFrom(museum);
        return museum.live.was;
    }

    public int back() {
        museum.copyFrom(image);
        return museum.live.was;
    }

    public int about(int what) {
        switch (what) {
            case 0: return museum.live.choices;
            case 1: return museum.live.pieces;
            case 2: return museum.live.rooms;
            case 3: return museum.people;
            case 4: return museum.live.x;
            case 5: return museum.texts;
            case 6: return museum.ruling;
            case 7: return museum.steps.count;
            case 8: return museum.facts;
            case 9: return laws.eventsTold(museum.ruling);
            case 10: return tape.length;
            default: return OTHERS;
        }
    }

    private static boolean isOneOf(int number, int count) {
        return number >= 0 && number < count;
    }

    private static int lowestOf(int set) {
        return set == 0 ? NONE : Integer.numberOfTrailingZeros(set);
    }

    /** The set with fewer members; of like ones the one that was there ahead. */
    private static int fewer(int best, int set) {
        if (best == NONE || Integer.bitCount(set) < Integer.bitCount(best)) {
            return set;
        }
        return best;
    }

    private static int inLowestTerms(int upper, int lower, boolean low) {
        int divisor = lower;
        int rest = upper;
        // Euclid's steps: fewer than 64 for any two ints
        for (int i = 0; i < 64 && rest != 0; i++) {
            int next = divisor % rest;
            divisor = rest;
            rest = next;
        }
        if (divisor < 1) {
            return NONE;
        }
        return low ? lower / divisor : upper / divisor;
    }

    /** What must be so: for a piece to agree with a way; or, as all facts ask, of a missing room. */
    private static final class Needs {
        private int one;
        private int nought;
        private int comes;
        private int not;

        void require(int one, int nought, int comes, int not) {
            this.one = one;
            this.nought = nought;
            this.comes = comes;
            this.not = not;
        }

        void copyFrom(Needs other) {
            require(other.one, other.nought, other.comes, other.not);
        }

        void addChoice(int choice, boolean so) {
            one |= so ? 1 << choice : 0;
            nought |= so ? 0 : 1 << choice;
        }

        void addEvent(int event, boolean so) {
            comes |= so ? 1 << event : 0;
            not |= so ? 0 : 1 << event;
        }

        boolean metBy(int way, int events) {
            return (way & one) == one && (way & nought) == 0
                && (events & comes) == comes && (events & not) == 0;
        }
    }

    /** What steps change: how choices are, the ways of rooms, where pieces are, and X. */
    private static final class Standing {
        private int choices;
        private int pieces;
        private int rooms;
        private int was;
        private int x = FIRST_X;
        private final int[] ways = new int[MOST_ROOMS];
        private final int[] places = new int[MOST_PIECES];

        void copyFrom(Standing other) {
            choices = other.choices;
            pieces = other.pieces;
            rooms = other.rooms;
            was = other.was;
            x = other.x;
            System.arraycopy(other.ways, 0, ways, 0, MOST_ROOMS);
            System.arraycopy(other.places, 0, places, 0, MOST_PIECES);
        }

        /** As it was then; but what has been told since then stays. */
        void goBackTo(Standing then) {
            int known = (1 << then.choices) - 1;
            was = was & ~known | then.was & known;
            x = then.x;
            System.arraycopy(then.ways, 0, ways, 0, then.rooms);
            System.arraycopy(then.places, 0, places, 0, then.pieces);
        }

        int piecesIn(int room) {
            int set = 0;
            for (int i = 0; i < pieces; i++) {
                if (places[i] == room) {
                    set |= 1 << i;
                }
            }
            return set;
        }

        int emptyRooms() {
            int set = 0;
            for (int i = 0; i < rooms; i++) {
                if (piecesIn(i) == 0) {
                    set |= 1 << i;
                }
            }
            return set;
        }

        int neighbours() {
            int twos = 0;
            for (int i = 0; i < rooms; i++) {
                for (int j = i + 1; j < rooms; j++) {
                    if (Integer.bitCount(ways[i] ^ ways[j]) == 1) {
                        twos++;
                    }
                }
            }
            return twos;
        }
    }

    /** How it stood ahead of each of the latest steps: a ring, so that the earliest goes first. */
    private static final class Steps {
        private final Standing[] ring = new Standing[MOST_STEPS];
        private int first;
        private int count;

        Steps() {
            for (int i = 0; i < MOST_STEPS; i++) {
                ring[i] = new Standing();
            }
        }

        void push(Standing live) {
            int slot = (first + count) % MOST_STEPS;
            ring[slot].copyFrom(live);
            if (count < MOST_STEPS) {
                count++;
            } else {
                first = (first + 1) % MOST_STEPS;
            }
        }

        boolean pop(Standing live) {
            if (count == 0) {
                return false;
            }
            count--;
            live.goBackTo(ring[(first + count) % MOST_STEPS]);
            return true;
        }

        void copyFrom(Steps other) {
            first = other.first;
            count = other.count;
            for (int i = 0; i < MOST_STEPS; i++) {
                ring[i].copyFrom(other.ring[i]);
            }
        }
    }

    /**
     * All that an image keeps. Texts stand outside: they are only ever told behind one another,
     * so the first ones of an image are still there, and their number is enough.
     */
    private static final class Museum {
        private final Standing live = new Standing();
        private final Steps steps = new Steps();
        private final int[] odds = new int[MOST_CHOICES];
        private final Needs[] needs = new Needs[MOST_PIECES];
        private final int[] holds = new int[MOST_ROOMS];
        private final int[] callers = new int[MOST_PEOPLE];
        private final int[] hinderers = new int[MOST_PEOPLE];
        private final int[] parents = new int[MOST_PEOPLE];
        private final Needs known = new Needs();
        private int people;
        private int facts;
        private int texts;
        private int ruling = NONE;

        Museum() {
            for (int i = 0; i < MOST_PIECES; i++) {
                needs[i] = new Needs();
            }
        }

        void copyFrom(Museum other) {
            live.copyFrom(other.live);
            steps.copyFrom(other.steps);
            System.arraycopy(other.odds, 0, odds, 0, MOST_CHOICES);
            System.arraycopy(other.holds, 0, holds, 0, MOST_ROOMS);
            System.arraycopy(other.callers, 0, callers, 0, MOST_PEOPLE);
            System.arraycopy(other.hinderers, 0, hinderers, 0, MOST_PEOPLE);
            System.arraycopy(other.parents, 0, parents, 0, MOST_PEOPLE);
            for (int i = 0; i < MOST_PIECES; i++) {
                needs[i].copyFrom(other.needs[i]);
            }
            known.copyFrom(other.known);
            people = other.people;
            facts = other.facts;
            texts = other.texts;
            ruling = other.ruling;
        }

        int wayCount() {
            return 1 << live.choices;
        }

        boolean isWay(int way) {
            return isOneOf(way, wayCount());
        }

        int allPieces() {
            return (1 << live.pieces) - 1;
        }

        boolean isPieceSet(int set) {
            return (set & ~allPieces()) == 0;
        }

        int tellChoice(int is, int chances) {
            int number = live.choices;
            if (!isOneOf(is, 2) || !isOneOf(chances, MOST_ODDS + 1) || number >= MOST_CHOICES) {
                return NONE;
            }
            odds[number] = chances;
            live.was |= is << number;
            live.choices = number + 1;
            return number;
        }

        int tellPiece(int one, int nought, int comes, int not) {
            int number = live.pieces;
            boolean sets = isOneOf(one, ALL_CHOICES + 1) && isOneOf(nought, ALL_CHOICES + 1)
                && isOneOf(comes, ALL_EVENTS + 1) && isOneOf(not, ALL_EVENTS + 1);
            if (!sets || (one & nought) != 0 || (comes & not) != 0 || number >= MOST_PIECES) {
                return NONE;
            }
            needs[number].require(one, nought, comes, not);
            live.places[number] = NONE;
            live.pieces = number + 1;
            return number;
        }

        int tellRoom(int way, int many) {
            int number = live.rooms;
            if (!isWay(way) || many < 1 || many > MOST_HELD || number >= MOST_ROOMS) {
                return NONE;
            }
            live.ways[number] = way;
            holds[number] = many;
            live.rooms = number + 1;
            return number;
        }

        int tellPerson(int caller, int hinderer, int parent) {
            int number = people;
            boolean events = (caller == NONE || isOneOf(caller, MOST_EVENTS))
                && (hinderer == NONE || isOneOf(hinderer, MOST_EVENTS));
            boolean family = parent == NONE || isOneOf(parent, number);
            if (!events || !family || number >= MOST_PEOPLE) {
                return NONE;
            }
            callers[number] = caller;
            hinderers[number] = hinderer;
            parents[number] = parent;
            people = number + 1;
            return number;
        }

        int tellFact(int k, boolean event, boolean so) {
            if (k == NONE) {
                facts = 0;
                known.require(0, 0, 0, 0);
                return facts;
            }
            if (!isOneOf(k, event ? MOST_EVENTS : live.choices) || facts >= MOST_FACTS) {
                return OTHERS;
            }
            if (event) {
                known.addEvent(k, so);
            } else {
                known.addChoice(k, so);
            }
            facts++;
            return facts;
        }

        int turnChoice(int choice) {
            if (!isOneOf(choice, live.choices)) {
                return NONE;
            }
            steps.push(live);
            live.was ^= 1 << choice;
            return live.was;
        }

        boolean setRoom(int room, int way) {
            if (!isOneOf(room, live.rooms) || !isWay(way) || live.ways[room] == way) {
                return false;
            }
            steps.push(live);
            live.ways[room] = way;
            return true;
        }

        private boolean canPut(int piece, int room) {
            return isOneOf(piece, live.pieces) && isOneOf(room, live.rooms)
                && live.places[piece] != room
                && Integer.bitCount(live.piecesIn(room)) < holds[room];
        }

        boolean putPiece(int piece, int room) {
            if (!canPut(piece, room)) {
                return false;
            }
            steps.push(live);
            live.places[piece] = room;
            return true;
        }

        int takePiece(int piece) {
            if (!isOneOf(piece, live.pieces) || live.places[piece] == NONE) {
                return NONE;
            }
            steps.push(live);
            int room = live.places[piece];
            live.places[piece] = NONE;
            return room;
        }

        /** The clause that can't be, or NONE. */
        int play(Text script) {
            for (int i = 0; i < script.clauses; i++) {
                if (!does(script.kinds[i], script.firsts[i], script.seconds[i])) {
                    return i;
                }
            }
            return NONE;
        }

        private boolean does(int kind, int one, int two) {
            switch (kind) {
                case CHOICE: return tellChoice(one, two) != NONE;
                case ROOM: return tellRoom(one, two) != NONE;
                case TURN: return turnChoice(one) != NONE;
                case SET: return setRoom(one, two);
                case PUT: return putPiece(one, two);
                case TAKE: return takePiece(one) != NONE;
                default: return true;
            }
        }

        int passYears(int seed, int n) {
            if (!isOneOf(seed, MOST_SEED + 1) || n < 1 || n > MOST_YEARS) {
                return NONE;
            }
            steps.push(live);
            live.x = seed * 2 + FIRST_X;
            for (int i = 0; i < n; i++) {
                int draw = live.x;
                live.x = (draw * 307 + 193) % 30319;
                passYear(draw);
            }
            return live.was;
        }

        /** What a draw does; no step of its own, for all years together are one. */
        private void passYear(int draw) {
            int piece = live.pieces > 0 ? draw % live.pieces : NONE;
            int room = live.rooms > 0 ? draw % live.rooms : NONE;
            switch (draw % 4) {
                case 0:
                    if (live.choices > 0) {
                        live.was ^= 1 << draw % live.choices;
                    }
                    break;
                case 1:
                    if (room != NONE) {
                        live.ways[room] = draw / 4 % wayCount();
                    }
                    break;
                case 2:
                    if (canPut(piece, room)) {
                        live.places[piece] = room;
                    }
                    break;
                default:
                    if (piece != NONE) {
                        live.places[piece] = NONE;
                    }
                    break;
            }
        }

        int takeBack() {
            return steps.pop(live) ? steps.count : NONE;
        }

        int eldersOf(int person) {
            int set = 0;
            int elder = parents[person];
            for (int i = 0; i < MOST_PEOPLE && elder != NONE; i++) {
                set |= 1 << elder;
                elder = parents[elder];
            }
            return set;
        }

        private boolean isCalled(int person, int events) {
            int caller = callers[person];
            int hinderer = hinderers[person];
            return (caller == NONE || (events >> caller & 1) == 1)
                && (hinderer == NONE || (events >> hinderer & 1) == 0);
        }

        boolean isThere(int person, int events) {
            int who = person;
            for (int i = 0; i < MOST_PEOPLE && who != NONE; i++) {
                if (!isCalled(who, events)) {
                    return false;
                }
                who = parents[who];
            }
            return true;
        }

        int peopleThere(int events) {
            int set = 0;
            for (int i = 0; i < people; i++) {
                if (isThere(i, events)) {
                    set |= 1 << i;
                }
            }
            return set;
        }
    }

    /** The bytes that were fed, and the tokens that they make. */
    private static final class Tape {
        private final int[] bytes = new int[MOST_BYTES];
        private final int[] starts = new int[MOST_BYTES + 1];
        private final int[] kinds = new int[MOST_BYTES + 1];
        private final int[] values = new int[MOST_BYTES + 1];
        private int length;
        private int tokens;

        boolean hasSpace() {
            return length + 20 <= MOST_BYTES;
        }

        void append(int four) {
            for (int shift = 24; shift >= 0 && length < MOST_BYTES; shift -= 8) {
                bytes[length] = four >> shift & 255;
                length++;
            }
        }

        boolean cut(int n) {
            if (n < 0 || n > length) {
                return false;
            }
            length = n;
            return true;
        }

        /** Makes tokens of all bytes; behind them stands the end, as one more. */
        void scan() {
            tokens = 0;
            for (int i = 0; i < length; i++) {
                if (bytes[i] != ' ' && bytes[i] != '\n' && !goesOn(i)) {
                    scanToken(i);
                }
            }
            starts[tokens] = length;
            kinds[tokens] = END;
        }

        /** Whether a byte belongs to the token of the byte ahead of it. */
        private boolean goesOn(int i) {
            if (i < 1) {
                return false;
            }
            int ahead = bytes[i - 1];
            return isLetter(bytes[i]) && isLetter(ahead)
                || isDigit(bytes[i]) && isDigit(ahead)
                || bytes[i] == '=' && (ahead == '<' || ahead == '>');
        }

        private void scanToken(int start) {
            int next = start + 1;
            while (next < length && goesOn(next)) {
                next++;
            }
            starts[tokens] = start;
            if (isDigit(bytes[start])) {
                kinds[tokens] = NUMBER;
                values[tokens] = number(start, next);
            } else if (isLetter(bytes[start])) {
                kinds[tokens] = word(start, next);
            } else {
                kinds[tokens] = sign(bytes[start], next - start);
            }
            tokens++;
        }

        private static boolean isLetter(int sign) {
            return sign >= 'a' && sign <= 'z' || sign >= 'A' && sign <= 'Z';
        }

        private static boolean isDigit(int sign) {
            return sign >= '0' && sign <= '9';
        }

        /** A number; one that is too great stays just above the greatest. */
        private int number(int from, int to) {
            int value = 0;
            for (int i = from; i < to; i++) {
                value = Math.min(value * 10 + bytes[i] - '0', MOST_NUMBER + 1);
            }
            return value;
        }

        private static int sign(int first, int size) {
            if (size == 2) {
                return first == '<' ? AT_MOST : AT_LEAST;
            }
            switch (first) {
                case '<': case '>': case '=': case '#': case '+': case '-': case '*': case '/':
                case '(': case ')': case ',': case ';':
                    return first;
                default:
                    return BAD;
            }
        }

        private boolean spells(int from, int to, String word) {
            if (to - from != word.length()) {
                return false;
            }
            for (int i = 0; i < word.length(); i++) {
                if (bytes[from + i] != word.charAt(i)) {
                    return false;
                }
            }
            return true;
        }

        private int word(int from, int to) {
            if (spells(from, to, "event")) return EVENT;
            if (spells(from, to, "may")) return MAY;
            if (spells(from, to, "choice")) return CHOICE;
            if (spells(from, to, "odds")) return ODDS;
            if (spells(from, to, "room")) return ROOM;
            if (spells(from, to, "for")) return FOR;
            if (spells(from, to, "turn")) return TURN;
            if (spells(from, to, "set")) return SET;
            if (spells(from, to, "to")) return TO;
            if (spells(from, to, "put")) return PUT;
            if (spells(from, to, "in")) return IN;
            if (spells(from, to, "take")) return TAKE;
            if (spells(from, to, "so")) return SO;
            if (spells(from, to, "or")) return OR;
            if (spells(from, to, "and")) return AND;
            if (spells(from, to, "not")) return NOT;
            if (spells(from, to, "was")) return WAS;
            if (spells(from, to, "came")) return CAME;
            if (spells(from, to, "count")) return COUNT;
            if (spells(from, to, "way")) return WAY;
            if (spells(from, to, "many")) return MANY;
            if (spells(from, to, "done")) return DONE;
            return BAD;
        }
    }

    /**
     * A text without a fault: its clauses, each with two numbers (of a law: where its terms begin
     * and end), and the terms of its laws, each behind what it is made of.
     */
    private static final class Text {
        private final int[] kinds = new int[MOST_CLAUSES];
        private final int[] firsts = new int[MOST_CLAUSES];
        private final int[] seconds = new int[MOST_CLAUSES];
        private final int[] terms = new int[MOST_BYTES];
        private final int[] values = new int[MOST_BYTES];
        private final int[] outcomes = new int[MOST_WAYS];
        private int clauses;
        private int events;
        private int size;
        private int workedOut;
        private boolean limited;

        void clear() {
            clauses = 0;
            events = 0;
            size = 0;
            workedOut = 0;
            limited = false;
        }

        void addTerm(int term, int value) {
            if (size < MOST_BYTES) {
                terms[size] = term;
                values[size] = value;
                size++;
            }
        }

        void addClause(int kind, int first, int second) {
            if (clauses < MOST_CLAUSES) {
                kinds[clauses] = kind;
                firsts[clauses] = first;
                seconds[clauses] = second;
                clauses++;
            }
            if (kind == EVENT) {
                events++;
            }
            limited = limited || kind == MAY;
        }
    }

    /** Reads the tape into a text, up to its first fault. */
    private static final class Reader {
        private static final int MOST_OPEN = 8;
        private static final int MOST_COUNTED = 6;

        private final Tape tape;
        private Text target;
        private int at;
        private int fault = NONE;
        private int place = NONE;

        Reader(Tape tape) {
            this.tape = tape;
        }

        boolean read(Text text) {
            if (text == null) {
                return false;
            }
            target = text;
            target.clear();
            tape.scan();
            at = 0;
            fault = 0;
            place = NONE;
            // the clause behind the last one that may be is come to as well, to be refused
            for (int i = 0; i <= MOST_CLAUSES && kind() != END && fault == 0; i++) {
                readClause(kind());
            }
            return fault == 0;
        }

        /** The kind of the token that is come to; behind a fault none can stand. */
        private int kind() {
            return fault == 0 ? tape.kinds[at] : BAD;
        }

        private void goOn() {
            if (at < tape.tokens) {
                at++;
            }
        }

        private void refuse(int number) {
            if (fault == 0) {
                fault = number;
                place = tape.starts[at];
            }
        }

        private void expect(int kind) {
            if (kind() == kind) {
                goOn();
            } else {
                refuse(1);
            }
        }

        private int readNumber(int lowest, int highest) {
            if (kind() != NUMBER) {
                refuse(1);
                return lowest;
            }
            int value = tape.values[at];
            if (value < lowest || value > highest) {
                refuse(2);
                return lowest;
            }
            goOn();
            return value;
        }

        private void readClause(int kind) {
            boolean law = kind == EVENT || kind == MAY;
            if (!law && !isDeed(kind)) {
                refuse(1);
            } else if (kind == MAY && target.limited || kind == EVENT && target.events >= MOST_EVENTS) {
                refuse(4);
            } else if (target.clauses >= MOST_CLAUSES) {
                refuse(6);
            } else {
                goOn();
                if (law) {
                    int start = target.size;
                    readWhole();
                    target.addClause(kind, start, target.size);
                } else {
                    readDeed(kind);
                }
                expect(';');
            }
        }

        private static boolean isDeed(int kind) {
            switch (kind) {
                case CHOICE: case ROOM: case TURN: case SET: case PUT: case TAKE:
                    return true;
                default:
                    return false;
            }
        }

        private void readDeed(int kind) {
            switch (kind) {
                case CHOICE:
                    readPair(kind, readNumber(0, 1), ODDS, 0, MOST_ODDS);
                    break;
                case ROOM:
                    readPair(kind, readNumber(0, ALL_CHOICES), FOR, 1, MOST_HELD);
                    break;
                case TURN:
                    target.addClause(kind, readNumber(0, MOST_CHOICES - 1), 0);
                    break;
                case SET:
                    readPair(kind, readNumber(0, MOST_ROOMS - 1), TO, 0, ALL_CHOICES);
                    break;
                case PUT:
                    readPair(kind, readNumber(0, MOST_PIECES - 1), IN, 0, MOST_ROOMS - 1);
                    break;
                default:
                    target.addClause(kind, readNumber(0, MOST_PIECES - 1), 0);
                    break;
            }
        }

        private void readPair(int kind, int first, int between, int lowest, int highest) {
            expect(between);
            target.addClause(kind, first, readNumber(lowest, highest));
        }

        /** A so B so C: all parts first, then the joins, so that the last two are joined first. */
        private void readWhole() {
            readEither(0);
            int joins = 0;
            for (int i = 0; i < MOST_BYTES && kind() == SO; i++) {
                goOn();
                readEither(0);
                joins++;
            }
            for (int i = 0; i < joins; i++) {
                target.addTerm(SO, 0);
            }
        }

        private void readEither(int open) {
            readBoth(open);
            for (int i = 0; i < MOST_BYTES && kind() == OR; i++) {
                goOn();
                readBoth(open);
                target.addTerm(OR, 0);
            }
        }

        private void readBoth(int open) {
            readAsk(open);
            for (int i = 0; i < MOST_BYTES && kind() == AND; i++) {
                goOn();
                readAsk(open);
                target.addTerm(AND, 0);
            }
        }

        private void readAsk(int open) {
            switch (kind()) {
                case NOT:
                    if (opens(open)) {
                        readAsk(open + 1);
                        target.addTerm(NOT, 0);
                    }
                    break;
                case WAS:
                    goOn();
                    target.addTerm(WAS, readNumber(0, MOST_CHOICES - 1));
                    break;
                case CAME:
                    goOn();
                    readCame();
                    break;
                default:
                    readCompared(open);
                    break;
            }
        }

        /** Goes into what is open around others, unless that would be too many. */
        private boolean opens(int open) {
            if (open >= MOST_OPEN) {
                refuse(3);
                return false;
            }
            goOn();
            return true;
        }

        private void readCame() {
            int event = kind() == NUMBER ? tape.values[at] : NONE;
            if (isOneOf(event, MOST_EVENTS) && event >= target.events) {
                refuse(5);
            } else {
                target.addTerm(CAME, readNumber(0, MOST_EVENTS - 1));
            }
        }

        private void readCompared(int open) {
            readSum(open);
            int sign = kind();
            switch (sign) {
                case '<': case '>': case '=': case '#': case AT_MOST: case AT_LEAST:
                    goOn();
                    readSum(open);
                    target.addTerm(sign, 0);
                    break;
                default:
                    refuse(1);
                    break;
            }
        }

        private void readSum(int open) {
            readProduct(open);
            for (int i = 0; i < MOST_BYTES && (kind() == '+' || kind() == '-'); i++) {
                int sign = kind();
                goOn();
                readProduct(open);
                target.addTerm(sign, 0);
            }
        }

        private void readProduct(int open) {
            readOne(open);
            for (int i = 0; i < MOST_BYTES && (kind() == '*' || kind() == '/'); i++) {
                int sign = kind();
                goOn();
                readOne(open);
                target.addTerm(sign, 0);
            }
        }

        private void readOne(int open) {
            int kind = kind();
            switch (kind) {
                case NUMBER:
                    target.addTerm(NUMBER, readNumber(0, MOST_NUMBER));
                    break;
                case WAY: case MANY: case DONE:
                    goOn();
                    target.addTerm(kind, 0);
                    break;
                case '(':
                    if (opens(open)) {
                        readSum(open + 1);
                        expect(')');
                    }
                    break;
                case '-':
                    if (opens(open)) {
                        readOne(open + 1);
                        target.addTerm(NEGATED, 0);
                    }
                    break;
                case COUNT:
                    if (opens(open)) {
                        readCounted(open + 1);
                    }
                    break;
                default:
                    refuse(1);
                    break;
            }
        }

        private void readCounted(int open) {
            expect('(');
            readEither(open);
            int counted = 1;
            for (int i = 0; i < MOST_COUNTED && kind() == ','; i++) {
                if (counted >= MOST_COUNTED) {
                    refuse(7);
                } else {
                    goOn();
                    readEither(open);
                    counted++;
                }
            }
            expect(')');
            target.addTerm(COUNT, counted);
        }
    }

    /** What follows from ways, by the text that rules or by any other. */
    private static final class Laws {
        private static final int ALLOWED = ALL_EVENTS + 1;
        private static final int GREATEST = 1000000;

        private final Museum museum;
        private final Text[] texts = new Text[MOST_TEXTS];
        private final int[] stack = new int[MOST_BYTES];
        private int top;

        Laws(Museum museum) {
            this.museum = museum;
            for (int i = 0; i < MOST_TEXTS; i++) {
                texts[i] = new Text();
            }
        }

        int events(int way) {
            return outcome(museum.ruling, way) & ALL_EVENTS;
        }

        int eventsBy(int text, int way) {
            return outcome(text, way) & ALL_EVENTS;
        }

        boolean allows(int way) {
            return (outcome(museum.ruling, way) & ALLOWED) != 0;
        }

        /** Whether a way may be, and all facts are so by it. */
        boolean leaves(int way) {
            int outcome = outcome(museum.ruling, way);
            return (outcome & ALLOWED) != 0 && museum.known.metBy(way, outcome & ALL_EVENTS);
        }

        int eventsTold(int text) {
            return isOneOf(text, MOST_TEXTS) ? texts[text].events : 0;
        }

        int waysAlike(int way) {
            int events = events(way);
            int count = 0;
            for (int other = 0; other < museum.wayCount(); other++) {
                if (events(other) == events) {
                    count++;
                }
            }
            return count;
        }

        int waysUnlike(int one, int other) {
            int count = 0;
            for (int way = 0; way < museum.wayCount(); way++) {
                if (eventsBy(one, way) != eventsBy(other, way)) {
                    count++;
                }
            }
            return count;
        }

        /**
         * Works out, by every text told, what follows from every way there is. To be called when a
         * text or a choice has been told: by a text as it stands, a way's outcome never changes.
         */
        void keepUp() {
            int ways = museum.wayCount();
            for (int i = 0; i < museum.texts && i < MOST_TEXTS; i++) {
                Text law = texts[i];
                for (int way = law.workedOut; way < ways && way < MOST_WAYS; way++) {
                    law.outcomes[way] = workOut(law, way);
                    law.workedOut = way + 1;
                }
            }
        }

        /** The events that come, and whether it may be. */
        private int outcome(int text, int way) {
            if (!isOneOf(text, MOST_TEXTS) || !isOneOf(way, texts[text].workedOut)) {
                return ALLOWED;
            }
            return texts[text].outcomes[way];
        }

        private int workOut(Text law, int way) {
            int events = 0;
            int told = 0;
            int allowed = ALLOWED;
            for (int i = 0; i < law.clauses; i++) {
                if (law.kinds[i] == EVENT) {
                    events |= asked(law, i, way, events) << told;
                    told++;
                } else if (law.kinds[i] == MAY) {
                    allowed = asked(law, i, way, events) * ALLOWED;
                }
            }
            return events | allowed;
        }

        /** Whether a law is so (1, 0), where these events of those told ahead have come. */
        private int asked(Text law, int clause, int way, int events) {
            top = 0;
            for (int i = law.firsts[clause]; i < law.seconds[clause] && i < law.size; i++) {
                work(law.terms[i], law.values[i], way, events);
            }
            return pop();
        }

        private void push(int value) {
            if (top < stack.length) {
                stack[top] = value;
                top++;
            }
        }

        private int pop() {
            if (top < 1) {
                return 0;
            }
            top--;
            return stack[top];
        }

        private void work(int term, int value, int way, int events) {
            switch (term) {
                case NUMBER: push(value); break;
                case WAY: push(way); break;
                case MANY: push(Integer.bitCount(way)); break;
                case DONE: push(Integer.bitCount(events)); break;
                case WAS: push(way >> value & 1); break;
                case CAME: push(events >> value & 1); break;
                case NOT: push(1 - pop()); break;
                case NEGATED: push(-pop()); break;
                case COUNT: countSo(value); break;
                default: join(term); break;
            }
        }

        private void countSo(int many) {
            int so = 0;
            for (int i = 0; i < many; i++) {
                so += pop();
            }
            push(so);
        }

        private void join(int term) {
            int right = pop();
            int first = pop();
            switch (term) {
                case AND: push(first & right); break;
                case OR: push(first | right); break;
                case SO: push(1 - first | right); break;
                case '<': push(first < right ? 1 : 0); break;
                case AT_MOST: push(first <= right ? 1 : 0); break;
                case '>': push(first > right ? 1 : 0); break;
                case AT_LEAST: push(first >= right ? 1 : 0); break;
                case '=': push(first == right ? 1 : 0); break;
                case '#': push(first != right ? 1 : 0); break;
                default: push(reckoned(term, first, right)); break;
            }
        }

        private static int reckoned(int term, int first, int right) {
            long result = 0;
            switch (term) {
                case '+': result = (long) first + right; break;
                case '-': result = (long) first - right; break;
                case '*': result = (long) first * right; break;
                default: result = right == 0 ? 0 : first / right; break;
            }
            if (result > GREATEST) {
                return GREATEST;
            }
            return result < -GREATEST ? -GREATEST : (int) result;
        }
    }

    /** Of a missing room: the ways that facts leave. */
    private static final class MissingRoom {
        private final Museum museum;
        private final Laws laws;
        private final int[] with = new int[MOST_WAYS];
        private final int[] without = new int[MOST_WAYS];
        private final int[] apart = new int[MOST_WAYS];

        MissingRoom(Museum museum, Laws laws) {
            this.museum = museum;
            this.laws = laws;
        }

        int howMany() {
            int count = 0;
            for (int way = 0; way < museum.wayCount(); way++) {
                if (laws.leaves(way)) {
                    count++;
                }
            }
            return count;
        }

        int wayAt(int i) {
            int count = 0;
            for (int way = 0; way < museum.wayCount(); way++) {
                if (laws.leaves(way)) {
                    if (count == i) {
                        return way;
                    }
                    count++;
                }
            }
            return NONE;
        }

        int choicesAlike() {
            int first = wayAt(0);
            int changed = 0;
            for (int way = 0; way < museum.wayCount(); way++) {
                if (laws.leaves(way)) {
                    changed |= way ^ first;
                }
            }
            return museum.wayCount() - 1 & ~changed;
        }

        int eventsAlike() {
            int first = wayAt(0);
            if (first == NONE) {
                return ALL_EVENTS;
            }
            int changed = 0;
            for (int way = 0; way < museum.wayCount(); way++) {
                if (laws.leaves(way)) {
                    changed |= laws.events(way) ^ laws.events(first);
                }
            }
            return ALL_EVENTS & ~changed;
        }

        int waysWith(int person) {
            int count = 0;
            for (int way = 0; way < museum.wayCount(); way++) {
                if (laws.leaves(way) && museum.isThere(person, laws.events(way))) {
                    count++;
                }
            }
            return count;
        }

        int nearestHalf() {
            int all = howMany();
            int best = NONE;
            int nearest = all;
            for (int choice = 0; choice < museum.live.choices; choice++) {
                int ones = onesLeft(choice);
                // alike in all of them would be as far from the half as it goes
                int far = Math.abs(ones * 2 - all);
                if (far < nearest) {
                    nearest = far;
                    best = choice;
                }
            }
            return best;
        }

        private int onesLeft(int choice) {
            int count = 0;
            for (int way = 0; way < museum.wayCount(); way++) {
                if ((way >> choice & 1) == 1 && laws.leaves(way)) {
                    count++;
                }
            }
            return count;
        }

        /**
         * A set tells an event, if any two ways, one with it and one without, differ in one of the
         * set: if what they differ in never lies wholly outside the set.
         */
        int fewestToAsk(int event) {
            int all = museum.wayCount() - 1;
            markApart(event);
            spread(all + 1);
            int best = NONE;
            for (int set = 0; set <= all; set++) {
                if (apart[all & ~set] == 0) {
                    best = fewer(best, set);
                }
            }
            return best;
        }

        private void markApart(int event) {
            int comes = 0;
            int doesNot = 0;
            for (int way = 0; way < museum.wayCount(); way++) {
                if (!laws.leaves(way)) {
                    continue;
                }
                if ((laws.events(way) >> event & 1) == 1) {
                    with[comes++] = way;
                } else {
                    without[doesNot++] = way;
                }
            }
            Arrays.fill(apart, 0);
            for (int i = 0; i < comes; i++) {
                for (int j = 0; j < doesNot; j++) {
                    apart[with[i] ^ without[j]] = 1;
                }
            }
        }

        /** Marks every set that holds a marked one. */
        private void spread(int sets) {
            for (int bit = 1; bit < sets; bit <<= 1) {
                for (int set = 0; set < sets; set++) {
                    if ((set & bit) != 0 && apart[set ^ bit] == 1) {
                        apart[set] = 1;
                    }
                }
            }
        }
    }

    /** What would have had to go otherwise, walks to where it did, and how likely it was. */
    private static final class Otherwise {
        private final Museum museum;
        private final Laws laws;
        private final int[] doors = new int[MOST_WAYS];
        private final int[] queue = new int[MOST_WAYS];

        Otherwise(Museum museum, Laws laws) {
            this.museum = museum;
            this.laws = laws;
        }

        int fewestTurned(int event, boolean comes) {
            int wanted = comes ? 1 : 0;
            int best = NONE;
            for (int set = 0; set < museum.wayCount(); set++) {
                int way = museum.live.was ^ set;
                if (laws.allows(way) && (laws.events(way) >> event & 1) == wanted) {
                    best = fewer(best, set);
                }
            }
            return best;
        }

        int waysTurned(int choice, int event) {
            int count = 0;
            for (int way = 0; way < museum.wayCount(); way++) {
                int changed = laws.events(way) ^ laws.events(way ^ 1 << choice);
                count += changed >> event & 1;
            }
            return count;
        }

        int changedBy(int choice) {
            int changed = 0;
            for (int way = 0; way < museum.wayCount(); way++) {
                changed |= laws.events(way) ^ laws.events(way ^ 1 << choice);
            }
            return changed;
        }

        int idleFor(int event) {
            int set = 0;
            for (int choice = 0; choice < museum.live.choices; choice++) {
                if ((changedBy(choice) >> event & 1) == 0) {
                    set |= 1 << choice;
                }
            }
            return set;
        }

        /** How many doors it is from each way to one, over ways that may be; NONE: no walk. */
        void measure(int to) {
            Arrays.fill(doors, NONE);
            int tail = 0;
            if (laws.allows(to)) {
                doors[to] = 0;
                queue[tail++] = to;
            }
            for (int head = 0; head < tail && head < MOST_WAYS; head++) {
                int way = queue[head];
                for (int choice = 0; choice < museum.live.choices; choice++) {
                    int next = way ^ 1 << choice;
                    if (doors[next] == NONE && laws.allows(next)) {
                        doors[next] = doors[way] + 1;
                        queue[tail++] = next;
                    }
                }
            }
        }

        int doorsFrom(int from) {
            return doors[from] == NONE ? OTHERS : doors[from];
        }

        int doorAt(int from, int i) {
            if (i >= doors[from]) {
                return OTHERS;
            }
            int way = from;
            for (int door = 0; door < i; door++) {
                way ^= 1 << nextChoice(way);
            }
            return nextChoice(way);
        }

        /** The lowest choice that leads a door nearer; only asked where there is one. */
        private int nextChoice(int way) {
            int choice = 0;
            while (choice < museum.live.choices - 1
                && doors[way ^ 1 << choice] != doors[way] - 1) {
                choice++;
            }
            return choice;
        }

        /** The chance of a way, of wholeWeight. */
        int weight(int way) {
            int product = 1;
            for (int choice = 0; choice < museum.live.choices; choice++) {
                int odds = museum.odds[choice];
                product *= (way >> choice & 1) == 1 ? odds : MOST_ODDS - odds;
            }
            return product;
        }

        int wholeWeight() {
            int whole = 1;
            for (int choice = 0; choice < museum.live.choices; choice++) {
                whole *= MOST_ODDS;
            }
            return whole;
        }

        int weightWith(int event) {
            int sum = 0;
            for (int way = 0; way < museum.wayCount(); way++) {
                if ((laws.events(way) >> event & 1) == 1) {
                    sum += weight(way);
                }
            }
            return sum;
        }

        /** A way in which an event is otherwise is unlike was of itself. */
        int likeliestOther(int event) {
            int before = laws.events(museum.live.was);
            int best = NONE;
            int greatest = NONE;
            for (int way = 0; way < museum.wayCount(); way++) {
                if (((laws.events(way) ^ before) >> event & 1) == 1 && weight(way) > greatest) {
                    greatest = weight(way);
                    best = way;
                }
            }
            return best;
        }
    }

    /** Which pieces agree with which ways, and how they can be laid out. */
    private static final class Collection {
        private final Museum museum;
        private final Laws laws;
        private final int[] together = new int[MOST_SETS];
        private final int[] roomsFor = new int[MOST_PIECES];
        private final int[] space = new int[MOST_ROOMS];

        Collection(Museum museum, Laws laws) {
            this.museum = museum;
            this.laws = laws;
        }

        boolean fits(int piece, int way) {
            return museum.needs[piece].metBy(way, laws.events(way));
        }

        /** Those of a set that agree with a way. */
        int fitting(int pieces, int way) {
            int events = laws.events(way);
            int set = 0;
            for (int i = 0; i < museum.live.pieces; i++) {
                if ((pieces >> i & 1) == 1 && museum.needs[i].metBy(way, events)) {
                    set |= 1 << i;
                }
            }
            return set;
        }

        int misplaced() {
            for (int i = 0; i < museum.live.pieces; i++) {
                int room = museum.live.places[i];
                if (room != NONE && !fits(i, museum.live.ways[room])) {
                    return i;
                }
            }
            return NONE;
        }

        int waysFor(int piece) {
            int count = 0;
            for (int way = 0; way < museum.wayCount(); way++) {
                if (laws.allows(way) && fits(piece, way)) {
                    count++;
                }
            }
            return count;
        }

        int bestWay(int pieces) {
            int best = NONE;
            int most = NONE;
            for (int way = 0; way < museum.wayCount(); way++) {
                if (!laws.allows(way)) {
                    continue;
                }
                int count = Integer.bitCount(fitting(pieces, way));
                if (count > most) {
                    most = count;
                    best = way;
                }
            }
            return best;
        }

        /** If no way may be, none is needed to be at odds: the empty set. */
        int fewestAtOdds(int pieces) {
            markTogether(pieces);
            int best = NONE;
            for (int set = 0; set <= pieces; set++) {
                if ((set & ~pieces) == 0 && together[set] == 0) {
                    best = fewer(best, set);
                }
            }
            return best;
        }

        /** Marks the sets that agree with some way that may be, all together. */
        private void markTogether(int pieces) {
            Arrays.fill(together, 0);
            for (int way = 0; way < museum.wayCount(); way++) {
                if (laws.allows(way)) {
                    together[fitting(pieces, way)] = 1;
                }
            }
            for (int i = 0; i < museum.live.pieces; i++) {
                for (int set = 0; set <= museum.allPieces(); set++) {
                    if ((set >> i & 1) == 0 && together[set | 1 << i] == 1) {
                        together[set] = 1;
                    }
                }
            }
        }

        int mostLaid(int pieces) {
            openRooms(pieces);
            return mostInto(pieces);
        }

        int roomLaid(int pieces, int piece) {
            openRooms(pieces);
            int rest = pieces;
            int due = mostInto(pieces);
            int room = NONE;
            for (int i = 0; i <= piece && i < museum.live.pieces; i++) {
                if ((pieces >> i & 1) == 0) {
                    continue;
                }
                rest &= ~(1 << i);
                room = lowestRoom(i, rest, due);
                due -= room == NONE ? 0 : 1;
            }
            return room;
        }

        private void openRooms(int pieces) {
            Arrays.fill(roomsFor, 0);
            for (int room = 0; room < museum.live.rooms; room++) {
                space[room] = museum.holds[room];
                int fit = fitting(pieces, museum.live.ways[room]);
                for (int i = 0; i < museum.live.pieces; i++) {
                    roomsFor[i] |= (fit >> i & 1) << room;
                }
            }
        }

        /** Lays a piece so that the rest can still come to as many as are due, and uses the space. */
        private int lowestRoom(int piece, int rest, int due) {
            for (int room = 0; room < museum.live.rooms; room++) {
                if ((roomsFor[piece] >> room & 1) == 0 || space[room] < 1) {
                    continue;
                }
                space[room]--;
                if (mostInto(rest) + 1 == due) {
                    return room;
                }
                space[room]++;
            }
            return NONE;
        }

        /**
         * How many of a set can be laid into the space there is. For any set of rooms it is at most
         * their space and the pieces that fit elsewhere too; and the least of these can be had
         * (the greatest flow is the least cut).
         */
        private int mostInto(int pieces) {
            int most = MOST_PIECES;
            for (int rooms = 0; rooms < 1 << museum.live.rooms; rooms++) {
                most = Math.min(most, spaceIn(rooms) + fitOutside(pieces, rooms));
            }
            return most;
        }

        private int spaceIn(int rooms) {
            int sum = 0;
            for (int room = 0; room < museum.live.rooms; room++) {
                sum += (rooms >> room & 1) * space[room];
            }
            return sum;
        }

        private int fitOutside(int pieces, int rooms) {
            int count = 0;
            for (int i = 0; i < museum.live.pieces; i++) {
                if ((pieces >> i & 1) == 1 && (roomsFor[i] & ~rooms) != 0) {
                    count++;
                }
            }
            return count;
        }
    }
}
