/** The sentences of "Terms" ahead of part II: how many there may be, and what steps do. */
final class TermsEdges {
    private static final int NONE = WhatWasNearly.NONE;

    @Says(at = "What it is", value = "An object is used for at most 512 calls after it has been made;")
    static void the512thCall(Due due) {
        WhatWasNearly x = new WhatWasNearly();
        x.choice(0, 5);
        for (int call = 2; call < 512; call++) {
            x.turn(0);
        }
        due.is("the 512th call", x.turn(0), 1);
    }

    @Says("The constants: `NONE = -1`: None.")
    static void none(Due due) {
        due.is("NONE", NONE, -1);
    }

    @Says("CHOICES 0 .. 7 (told one by one):")
    static void choices(Due due) {
        WhatWasNearly x = new WhatWasNearly();
        for (int k = 0; k <= 7; k++) {
            due.is("choice " + k, x.choice(0, 5), k);
            due.is("CHOICES behind it", x.about(0), k + 1);
        }
        due.refuses("a choice 8", Museums::full, y -> y.choice(0, 5), NONE);
    }

    @Says("IS (0, 1: as it was),")
    static void is(Due due) {
        WhatWasNearly x = new WhatWasNearly();
        due.is("0", x.choice(0, 5), 0);
        due.is("1", x.choice(1, 5), 1);
        due.is("IS of 0", x.ofChoice(0, 0), 0);
        due.is("IS of 1", x.ofChoice(1, 0), 1);
        for (int is : Museums.outside(0, 1)) {
            due.refuses("is " + is, Museums::some, y -> y.choice(is, 5), NONE);
        }
    }

    @Says("ODDS 0 .. 10 (of 10, that it is 1).")
    static void odds(Due due) {
        WhatWasNearly x = new WhatWasNearly();
        due.is("odds 0", x.choice(0, 0), 0);
        due.is("that it is 1, of odds 0", x.chanceOf(1, false), 0);
        due.is("that it is 0, of odds 0", x.chanceOf(0, false), 1);
        WhatWasNearly y = new WhatWasNearly();
        due.is("odds 10", y.choice(0, 10), 0);
        due.is("that it is 1, of odds 10", y.chanceOf(1, false), 1);
        due.is("that it is 0, of odds 10", y.chanceOf(0, false), 0);
        WhatWasNearly z = new WhatWasNearly();
        due.is("odds 1", z.choice(0, 1), 0);
        due.is("that it is 1, of odds 1", z.chanceOf(1, false), 1);
        due.is("of 10", z.chanceOf(1, true), 10);
        for (int odds : Museums.outside(0, 10)) {
            due.refuses("odds " + odds, Museums::some, w -> w.choice(0, odds), NONE);
        }
    }

    @Says("A WAY: 0 .. 255: CHOICE k is its bit k (bits of CHOICES not told are 0: others aren't WAYS).")
    static void ways(Due due) {
        WhatWasNearly x = Due.ruled("event was 0;event was 1;event was 2;event was 3;event was 4;event was 5;"
            + "event was 6;event was 7;", 0);
        for (int told = 0; told <= 8; told++) {
            int last = (1 << told) - 1;
            due.is("the last way of " + told, x.follows(last), last);
            due.is("the first that isn't of " + told, x.follows(last + 1), NONE);
            due.is("way 0 of " + told, x.follows(0), 0);
            due.is("way -1 of " + told, x.follows(-1), NONE);
            x.choice(0, 5);
        }
        for (int k = 0; k <= 7; k++) {
            due.is("bit " + k, x.follows(1 << k), 1 << k);
        }
        for (int way : Museums.outside(0, 255)) {
            due.is("way " + way, x.follows(way), NONE);
        }
    }

    @Says("WAS: the WAY as it was (as it IS by now).")
    static void was(Due due) {
        WhatWasNearly x = new WhatWasNearly();
        due.is("of no choices", x.was(), 0);
        for (int i = 0; i < 8; i++) {
            x.choice(1, 5);
        }
        due.is("of eight that are 1", x.was(), 255);
        x.turn(0);
        x.turn(7);
        due.is("by now", x.was(), 126);
    }

    @Says("PIECES 0 .. 9 (told one by one):")
    static void pieces(Due due) {
        WhatWasNearly x = new WhatWasNearly();
        for (int i = 0; i <= 9; i++) {
            due.is("piece " + i, x.piece(0, 0, 0, 0), i);
            due.is("PIECES behind it", x.about(1), i + 1);
        }
        due.refuses("a piece 10", Museums::full, y -> y.piece(0, 0, 0, 0), NONE);
    }

    @Says("CHOICES that must be 1, that must be 0 (bits),")
    static void needsOfChoices(Due due) {
        WhatWasNearly x = Due.ruled("", 8);
        x.piece(129, 2, 0, 0);
        due.is("all so", x.agrees(0, 129), 1);
        due.is("the lowest isn't 1", x.agrees(0, 128), 0);
        due.is("the highest isn't 1", x.agrees(0, 1), 0);
        due.is("one isn't 0", x.agrees(0, 131), 0);
        due.is("others may be either", x.agrees(0, 253), 1);
        WhatWasNearly y = Due.ruled("", 7);
        y.piece(128, 0, 0, 0);
        y.piece(0, 128, 0, 0);
        due.is("must be 1, not told", y.agrees(0, 127), 0);
        due.is("must be 0, not told", y.agrees(1, 127), 1);
        y.choice(0, 5);
        due.is("must be 1, told since", y.agrees(0, 128), 1);
        due.is("must be 0, told since", y.agrees(1, 128), 0);
    }

    @Says("EVENTS that must come, that mustn't (bits; EVENTS 0 .. 9, there or not; one that isn't there doesn't come).")
    static void needsOfEvents(Due due) {
        for (int there = 0; there <= 10; there++) {
            WhatWasNearly x = Due.ruled("event 1=1;".repeat(there), 0);
            x.piece(0, 0, 512, 0);
            x.piece(0, 0, 0, 512);
            x.piece(0, 0, 1, 0);
            x.piece(0, 0, 0, 1);
            due.is("9 must come, of " + there, x.agrees(0, 0), there == 10 ? 1 : 0);
            due.is("9 mustn't, of " + there, x.agrees(1, 0), there == 10 ? 0 : 1);
            due.is("0 must come, of " + there, x.agrees(2, 0), there > 0 ? 1 : 0);
            due.is("0 mustn't, of " + there, x.agrees(3, 0), there > 0 ? 0 : 1);
        }
    }

    @Says("ROOMS 0 .. 5 (told one by one):")
    static void rooms(Due due) {
        WhatWasNearly x = new WhatWasNearly();
        for (int i = 0; i <= 5; i++) {
            due.is("room " + i, x.room(0, 1), i);
            due.is("ROOMS behind it", x.about(2), i + 1);
        }
        due.refuses("a room 6", Museums::full, y -> y.room(0, 1), NONE);
    }

    @Says("a WAY, ROOM for 1 .. 9 PIECES.")
    static void roomFor(Due due) {
        for (int many = 1; many <= 9; many++) {
            WhatWasNearly x = new WhatWasNearly();
            due.is("for " + many, x.room(0, many), 0);
            for (int i = 0; i < 10; i++) {
                x.piece(0, 0, 0, 0);
                due.is("piece " + i + " of " + many, x.put(i, 0), i < many);
            }
        }
        for (int many : Museums.outside(1, 9)) {
            due.refuses("for " + many, Museums::some, x -> x.room(0, many), NONE);
        }
    }

    @Says("Each PIECE is in a ROOM or in none (at first none).")
    static void atFirstInNone(Due due) {
        WhatWasNearly x = new WhatWasNearly();
        x.room(0, 9);
        x.piece(0, 0, 0, 0);
        due.is("at first", x.ofPiece(0, 4), NONE);
        due.is("pieces in the room at first", x.ofRoom(0, 2), 0);
        x.put(0, 0);
        due.is("in a room", x.ofPiece(0, 4), 0);
        x.piece(0, 0, 0, 0);
        due.is("another at first", x.ofPiece(1, 4), NONE);
    }

    @Says("PEOPLE 0 .. 7 (told one by one):")
    static void people(Due due) {
        WhatWasNearly x = new WhatWasNearly();
        for (int i = 0; i <= 7; i++) {
            due.is("person " + i, x.person(NONE, NONE, NONE), i);
            due.is("PEOPLE behind it", x.about(3), i + 1);
        }
        due.refuses("a person 8", Museums::full, y -> y.person(NONE, NONE, NONE), NONE);
    }

    @Says("THERE in a WAY by an EVENT that comes (0 .. 9, or NONE: as ever)")
    static void thereByAnEvent(Due due) {
        WhatWasNearly x = Due.ruled("event was 0;" + "event 1=2;".repeat(8) + "event was 0;", 1);
        due.is("by 0", x.person(0, NONE, NONE), 0);
        due.is("by 9", x.person(9, NONE, NONE), 1);
        due.is("by NONE", x.person(NONE, NONE, NONE), 2);
        due.is("by 0, it comes", x.there(0, 1), 1);
        due.is("by 0, it doesn't", x.there(0, 0), 0);
        due.is("by 9, it comes", x.there(1, 1), 1);
        due.is("by 9, it doesn't", x.there(1, 0), 0);
        due.is("as ever", x.there(2, 0) + x.there(2, 1), 2);
        for (int by : Museums.outside(NONE, 9)) {
            due.refuses("by " + by, Museums::some, y -> y.person(by, NONE, NONE), NONE);
        }
    }

    @Says("and one that doesn't (0 .. 9, or NONE),")
    static void thereWithoutAnEvent(Due due) {
        WhatWasNearly x = Due.ruled("event was 0;" + "event 1=2;".repeat(8) + "event was 0;", 1);
        due.is("not 0", x.person(NONE, 0, NONE), 0);
        due.is("not 9", x.person(NONE, 9, NONE), 1);
        due.is("not NONE", x.person(NONE, NONE, NONE), 2);
        due.is("not 0, it comes", x.there(0, 1), 0);
        due.is("not 0, it doesn't", x.there(0, 0), 1);
        due.is("not 9, it comes", x.there(1, 1), 0);
        due.is("not 9, it doesn't", x.there(1, 0), 1);
        due.is("without", x.there(2, 0) + x.there(2, 1), 2);
        x.by(NONE);
        due.is("one that isn't there doesn't come", x.there(0, 1), 1);
        for (int not : Museums.outside(NONE, 9)) {
            due.refuses("not " + not, Museums::some, y -> y.person(NONE, not, NONE), NONE);
        }
    }

    @Says("and a parent who is THERE (one told earlier, or NONE).")
    static void thereByAParent(Due due) {
        WhatWasNearly x = Due.ruled("event was 0;", 1);
        due.is("the first, of itself", x.person(NONE, NONE, 0), NONE);
        due.is("by NONE", x.person(0, NONE, NONE), 0);
        for (int i = 1; i <= 7; i++) {
            due.is("of itself", x.person(NONE, NONE, i), NONE);
            due.is("of the one ahead", x.person(NONE, NONE, i - 1), i);
        }
        due.is("the last by the first, who is there", x.there(7, 1), 1);
        due.is("the last by the first, who isn't", x.there(7, 0), 0);
        for (int parent : Museums.outside(NONE, 2)) {
            due.refuses("parent " + parent, Museums::some, y -> y.person(NONE, NONE, parent), NONE);
        }
    }

    @Says("X: at first 89.")
    static void x(Due due) {
        due.is("X", new WhatWasNearly().about(4), 89);
    }

    @Says("AGREES: a PIECE with a WAY, if all that it needs is so.")
    static void agrees(Due due) {
        WhatWasNearly x = Due.ruled("event was 2;event was 3;", 4);
        x.piece(1, 2, 1, 2);
        x.piece(0, 0, 0, 0);
        // bit 0 as it must be, bit 1 as it mustn't, 2 and 3 are the events
        for (int way = 0; way < 16; way++) {
            due.is("needs of four kinds, in " + way, x.agrees(0, way), way == 5 ? 1 : 0);
            due.is("needs of nothing, in " + way, x.agrees(1, way), 1);
        }
    }

    @Says("TURNED: a CHOICE IS the other one.")
    static void turned(Due due) {
        WhatWasNearly x = new WhatWasNearly();
        x.choice(0, 5);
        x.choice(1, 5);
        due.is("0 to 1", x.turn(0), 3);
        due.is("1 to 0", x.turn(1), 1);
        due.is("and back", x.turn(0), 0);
        due.is("odds are as they were", x.ofChoice(0, 1), 5);
    }

    @Says("SET: a ROOM is another WAY.")
    static void setTo(Due due) {
        WhatWasNearly x = Due.ruled("", 2);
        x.room(1, 3);
        x.piece(0, 0, 0, 0);
        x.put(0, 0);
        due.is("another", x.set(0, 2), true);
        due.is("its way", x.ofRoom(0, 0), 2);
        due.is("it holds as many", x.ofRoom(0, 1), 3);
        due.is("pieces stay in it", x.ofRoom(0, 2), 1);
    }

    @Says("PUT: a PIECE in a ROOM with room (PIECES in it are fewer), out of the one it is in;")
    static void putIn(Due due) {
        WhatWasNearly x = new WhatWasNearly();
        x.room(0, 1);
        x.room(0, 2);
        for (int i = 0; i < 4; i++) {
            x.piece(0, 0, 0, 0);
        }
        due.is("an empty one", x.put(0, 1), true);
        due.is("one fewer", x.put(1, 1), true);
        due.is("not fewer", x.put(2, 1), false);
        due.is("out of the one", x.put(0, 0), true);
        due.is("it isn't there any more", x.ofRoom(1, 2), 2);
        due.is("it is here", x.ofRoom(0, 2), 1);
        due.is("fewer again", x.put(2, 1), true);
        due.is("not fewer again", x.put(0, 1), false);
        due.is("it is where it was", x.ofPiece(0, 4), 0);
    }

    @Says("or TAKEN into none.")
    static void taken(Due due) {
        WhatWasNearly x = new WhatWasNearly();
        x.room(0, 1);
        x.piece(0, 0, 0, 0);
        x.piece(0, 0, 0, 0);
        x.put(0, 0);
        due.is("taken", x.take(0), 0);
        due.is("into none", x.ofPiece(0, 4), NONE);
        due.is("the room has room", x.put(1, 0), true);
    }

    @Says("STEPS: TURNED, SET, PUT, TAKEN, YEARS (see V): the latest 30 can be taken back, the latest first")
    static void thirtySteps(Due due) {
        for (int steps : new int[] {1, 29, 30, 31, 59, 60, 61, 91}) {
            WhatWasNearly x = Due.ruled("", 1);
            x.room(0, 1);
            x.piece(0, 0, 0, 0);
            int[] seen = new int[steps + 1];
            for (int i = 0; i < steps; i++) {
                seen[i] = sight(x);
                oneStep(x, i);
            }
            int kept = Math.min(steps, 30);
            due.is("steps of " + steps, x.about(7), kept);
            for (int i = 1; i <= kept; i++) {
                due.is("undo " + i + " of " + steps, x.undo(), kept - i);
                due.is("as ahead of it", sight(x), seen[steps - i]);
            }
            due.is("one more of " + steps, x.undo(), NONE);
            due.is("nothing more is taken back", sight(x), seen[steps - kept]);
        }
    }

    /** By the five kinds in turn: a single year sets the room or takes the piece, so it can be put again. */
    private static void oneStep(WhatWasNearly x, int i) {
        switch (i % 5) {
            case 0 -> x.turn(0);
            case 1 -> x.set(0, 1 - x.ofRoom(0, 0));
            case 2 -> x.put(0, 0);
            case 3 -> x.take(0);
            default -> x.years(i, 1);
        }
    }

    private static int sight(WhatWasNearly x) {
        return x.about(4) * 8 + x.was() * 4 + x.ofRoom(0, 0) * 2 + (x.ofPiece(0, 4) == 0 ? 1 : 0);
    }

    @Says("(CHOICES as they are, ROOMS' WAYS, where PIECES are, X are as ahead of it;")
    static void asAheadOfIt(Due due) {
        WhatWasNearly x = Due.ruled("", 8);
        for (int i = 0; i < 6; i++) {
            x.room(i, 9);
        }
        for (int i = 0; i < 10; i++) {
            x.piece(0, 0, 0, 0);
            x.put(i, i % 6);
        }
        x.years(77, 40);
        String ahead = standing(x);
        x.years(4321, 40);
        due.is("the years changed it", standing(x).equals(ahead), false);
        due.is("years", x.undo(), 11);
        due.is("as ahead of the years", standing(x).equals(ahead), true);
        x.turn(7);
        x.undo();
        due.is("as ahead of a turn", standing(x).equals(ahead), true);
        x.set(5, x.ofRoom(5, 0) ^ 128);
        x.undo();
        due.is("as ahead of a set", standing(x).equals(ahead), true);
        x.put(9, x.ofPiece(9, 4) == 5 ? 4 : 5);
        x.undo();
        due.is("as ahead of a put", standing(x).equals(ahead), true);
        int in = 0;
        while (in < 9 && x.ofPiece(in, 4) == NONE) {
            in++;
        }
        due.is("taken", x.take(in) != NONE, true);
        x.undo();
        due.is("as ahead of a take", standing(x).equals(ahead), true);
    }

    private static String standing(WhatWasNearly x) {
        StringBuilder all = new StringBuilder();
        all.append(x.was()).append(' ').append(x.about(4));
        for (int i = 0; i < 6; i++) {
            all.append(' ').append(x.ofRoom(i, 0));
        }
        for (int i = 0; i < 10; i++) {
            all.append(' ').append(x.ofPiece(i, 4));
        }
        return all.toString();
    }

    @Says("what was told since is as told).")
    static void toldSince(Due due) {
        WhatWasNearly x = new WhatWasNearly();
        x.choice(0, 5);
        x.room(0, 1);
        x.piece(0, 0, 0, 0);
        x.turn(0);
        x.choice(1, 10);
        x.room(3, 9);
        x.piece(2, 0, 0, 0);
        x.person(NONE, NONE, NONE);
        x.fact(1, false, true);
        Due.text(x, "event 1=1;");
        x.by(0);
        x.turn(1);
        x.set(1, 1);
        x.put(1, 0);
        for (int left = 3; left >= 0; left--) {
            due.is("undo", x.undo(), left);
        }
        due.is("a choice, as told", x.was(), 2);
        due.is("its odds", x.ofChoice(1, 1), 10);
        due.is("a room, as told", x.ofRoom(1, 0), 3);
        due.is("for how many", x.ofRoom(1, 1), 9);
        due.is("a piece, as told", x.ofPiece(1, 0), 2);
        due.is("in none", x.ofPiece(1, 4), NONE);
        due.is("a person", x.about(3), 1);
        due.is("a fact", x.about(8), 1);
        due.is("a text", x.about(5), 1);
        due.is("the text", x.about(6), 0);
    }
}
