import java.util.Arrays;

/** The sentences of parts III to V: what is asked, chances, years, and the image. */
final class QuestionEdges {
    private static final int NONE = WhatWasNearly.NONE;
    private static final String NEVER = "may 1=2;";

    @Says("All that follows changes nothing.")
    static void changesNothing(Due due) {
        due.refuses("all questions of a bare one", Museums::bare, x -> answers(x).isEmpty() ? 0 : 1, 1);
        due.refuses("all questions of some", Museums::some, x -> answers(x).isEmpty() ? 0 : 1, 1);
        due.refuses("all questions of a full one", Museums::full, x -> answers(x).isEmpty() ? 0 : 1, 1);
        due.is("and they are answered alike", answersTwice(Museums.some()), true);
        due.is("of a full one, too", answersTwice(Museums.full()), true);
    }

    private static boolean answersTwice(WhatWasNearly x) {
        return answers(x).equals(answers(x));
    }

    /**
     * The answers to all questions that change nothing, of all numbers that there are and some others.
     * Twice that is more than 512 calls, of which the document promises nothing; the class counts none.
     */
    private static String answers(WhatWasNearly x) {
        StringBuilder all = new StringBuilder();
        append(all, x.was(), x.cannot(), x.halves(), x.nextDoor(), x.empty(), x.gifts(), x.left(NONE), x.sure(true),
            x.sure(false), x.differ(0, 1, 0), x.unlike(0, 1), x.fault(0), x.fault(1));
        for (int i = -1; i <= 10; i++) {
            append(all, x.ofChoice(i, 0), x.ofChoice(i, 1), x.ofPiece(i, 0), x.ofPiece(i, 4), x.ofRoom(i, 0),
                x.ofRoom(i, 2), x.agreeIn(i), x.elders(i), x.thereIn(i), x.leanOn(i), x.about(i));
            append(all, x.ask(i), x.least(i, true), x.least(i, false), x.noMatter(i), x.turnsIt(0, i, true),
                x.turnsIt(1, i, false), x.chance(i, true), x.chance(i, false), x.nearly(i));
            append(all, x.agrees(0, i), x.follows(i), x.mayBe(i), x.left(i), x.there(0, i), x.lookedFor(i),
                x.walk(0, i, NONE), x.walk(i, 1, 0), x.chanceOf(i, true), x.chanceOf(i, false), x.alike(i));
        }
        for (int set : new int[] {0, 1, 2, 3, 7, 63, 1023}) {
            append(all, x.most(set, true), x.most(set, false), x.clash(set), x.laidOut(set, NONE), x.laidOut(set, 0));
        }
        return all.toString();
    }

    private static void append(StringBuilder all, int... numbers) {
        all.append(Arrays.toString(numbers)).append('\n');
    }

    @Says("FOLLOWS from a WAY: EVENTS (bits) that come; whether it may be.")
    static void follows(Due due) {
        WhatWasNearly x = Due.ruled("event was 0;" + "event 1=2;".repeat(8) + "event was 1;may was 0;", 2);
        due.is("none", x.follows(0), 0);
        due.is("the first", x.follows(1), 1);
        due.is("the last", x.follows(2), 512);
        due.is("both", x.follows(3), 513);
        for (int way = 0; way < 4; way++) {
            due.is("whether " + way + " may be", x.mayBe(way), way & 1);
        }
    }

    @Says("CAN'T BE: the lowest PIECE in a ROOM whose WAY it doesn't AGREE with (any ROOM; none).")
    static void cannot(Due due) {
        WhatWasNearly x = Due.ruled("event was 0;" + NEVER, 1);
        due.is("no pieces", x.cannot(), NONE);
        for (int i = 0; i < 10; i++) {
            x.piece(0, 0, 1, 0);
        }
        for (int i = 0; i < 6; i++) {
            x.room(i == 5 ? 0 : 1, 9);
        }
        due.is("in none", x.cannot(), NONE);
        x.put(0, 0);
        due.is("where it agrees, though that may not be", x.cannot(), NONE);
        x.put(9, 5);
        due.is("the last piece, in the last room", x.cannot(), 9);
        x.put(4, 5);
        due.is("the lowest", x.cannot(), 4);
        x.set(0, 0);
        due.is("in any room", x.cannot(), 0);
        x.set(0, 1);
        x.set(5, 1);
        due.is("none", x.cannot(), NONE);
    }

    @Says("MOST AGREE: the WAY that may be with which most PIECES of a set AGREE; of like ones the lowest: how many, "
        + "the WAY; none (no WAY may be).")
    static void most(Due due) {
        WhatWasNearly x = Due.ruled("may way#0;", 2);
        x.piece(0, 3, 0, 0);
        x.piece(1, 0, 0, 0);
        x.piece(2, 0, 0, 0);
        x.piece(0, 2, 0, 0);
        due.is("two", x.most(6, false), 2);
        due.is("their way", x.most(6, true), 3);
        due.is("one that agrees with what may not be: none", x.most(1, false), 0);
        due.is("with the lowest that may be", x.most(1, true), 1);
        due.is("of like ones", x.most(12, false), 1);
        due.is("of like ones the lowest", x.most(12, true), 1);
        due.is("the empty set", x.most(0, false), 0);
        due.is("the empty set's way", x.most(0, true), 1);
        due.is("others don't count", x.most(4, true), 2);
        Due.text(x, NEVER);
        x.by(1);
        due.is("no way may be", x.most(15, false), NONE);
        due.is("no way may be, the way", x.most(15, true), NONE);
        due.is("no way may be, the empty set", x.most(0, true), NONE);
        Due.text(x, "may way=3;");
        x.by(2);
        due.is("the highest alone may be", x.most(8, true), 3);
    }

    @Says("CLASH: the fewest PIECES of a set that AGREE with no WAY that may be, all together; of like ones the lowest "
        + "set (bits); none.")
    static void clash(Due due) {
        WhatWasNearly x = Due.ruled("may many<=2;", 3);
        x.piece(1, 0, 0, 0);
        x.piece(2, 0, 0, 0);
        x.piece(4, 0, 0, 0);
        due.is("three together", x.clash(7), 7);
        due.is("two of them can", x.clash(3), NONE);
        due.is("the empty set can", x.clash(0), NONE);
        x.piece(0, 1, 0, 0);
        x.piece(0, 2, 0, 0);
        due.is("fewer, though not lower", x.clash(15), 9);
        due.is("of like ones the lowest", x.clash(31), 9);
        due.is("of the set alone", x.clash(30), 18);
        x.piece(0, 0, 512, 0);
        due.is("one alone", x.clash(63), 32);
        Due.text(x, "");
        x.by(1);
        due.is("if all may be, three can", x.clash(7), NONE);
        Due.text(x, NEVER);
        x.by(2);
        due.is("if none may be, none is needed", x.clash(7), 0);
        WhatWasNearly y = Due.ruled("may count(was 0,was 1,was 2,was 3,was 4)+count(was 5,was 6,was 7)<8;", 8);
        for (int i = 0; i < 8; i++) {
            y.piece(1 << i, 0, 0, 0);
        }
        y.piece(0, 0, 0, 0);
        y.piece(0, 0, 0, 0);
        due.is("eight of ten", y.clash(1023), 255);
        due.is("without one of them", y.clash(1023 - 128), NONE);
    }

    @Says("FACTS (8 at most; told):")
    static void eightFacts(Due due) {
        WhatWasNearly x = Due.ruled("", 1);
        for (int i = 1; i <= 8; i++) {
            due.is("fact " + i, x.fact(0, false, true), i);
        }
        due.refuses("a 9th", Museums::full, y -> y.fact(0, false, true), -2);
        due.refuses("a 9th, of an event", Museums::full, y -> y.fact(9, true, true), -2);
    }

    @Says("of a missing room: a CHOICE is 0, 1, or an EVENT comes, or doesn't.")
    static void facts(Due due) {
        int[] left = {1, 0, 1, 0};
        for (int i = 0; i < 4; i++) {
            WhatWasNearly x = Due.ruled("event was 0;", 1);
            x.fact(0, i >= 2, (i & 1) == 0);
            due.is("how many by fact " + i, x.left(NONE), 1);
            due.is("which by fact " + i, x.left(0), left[i]);
        }
        WhatWasNearly y = Due.ruled("event was 0;", 8);
        y.fact(7, false, true);
        y.fact(9, true, false);
        due.is("an event that isn't there doesn't come", y.left(NONE), 128);
        y.fact(9, true, true);
        due.is("nor does it come by a fact", y.left(NONE), 0);
    }

    @Says("LEFT: WAYS that may be by which all FACTS are so: how many, the i-th (from the lowest on).")
    static void left(Due due) {
        WhatWasNearly x = Due.ruled("may way#2;", 2);
        due.is("without facts", x.left(NONE), 3);
        due.is("the lowest", x.left(0), 0);
        due.is("the next", x.left(1), 1);
        due.is("the last", x.left(2), 3);
        due.is("none such", x.left(3), NONE);
        x.fact(0, false, false);
        due.is("one", x.left(NONE), 1);
        x.fact(1, false, true);
        due.is("none", x.left(NONE), 0);
        due.is("none at 0", x.left(0), NONE);
        WhatWasNearly y = Due.ruled("", 8);
        due.is("all", y.left(NONE), 256);
        due.is("the 255th", y.left(255), 255);
        due.is("the 256th", y.left(256), NONE);
        WhatWasNearly z = new WhatWasNearly();
        due.is("without choices", z.left(NONE), 1);
        due.is("the only one", z.left(0), 0);
        due.is("a second", z.left(1), NONE);
    }

    @Says("SURE: CHOICES (bits) that are alike in all of these; EVENTS (bits) likewise")
    static void sure(Due due) {
        WhatWasNearly x = Due.ruled("event was 0;event was 1;event was 0 and was 1;", 2);
        due.is("no choices", x.sure(false), 0);
        due.is("events that aren't there", x.sure(true), 1023 - 7);
        x.fact(0, false, false);
        due.is("a choice that is 0", x.sure(false), 1);
        due.is("events alike", x.sure(true), 1023 - 2);
        x.fact(1, true, true);
        due.is("one left: all told choices", x.sure(false), 3);
        due.is("one left: all events", x.sure(true), 1023);
        WhatWasNearly y = new WhatWasNearly();
        due.is("without choices", y.sure(false), 0);
        due.is("without choices, events", y.sure(true), 1023);
    }

    @Says("(none LEFT: all told CHOICES, all EVENTS).")
    static void sureOfNone(Due due) {
        for (int told = 0; told <= 8; told++) {
            WhatWasNearly x = Due.ruled("event was 0;" + NEVER, told);
            due.is("choices of " + told, x.sure(false), (1 << told) - 1);
            due.is("events of " + told, x.sure(true), 1023);
        }
    }

    @Says("ASK: the fewest CHOICES (bits) by which, asked in any of these WAYS, one would know whether an EVENT comes; "
        + "of like ones the lowest set.")
    static void ask(Due due) {
        WhatWasNearly x = Due.ruled("event many/2*2=many;event was 7;event 1=1;event was 0 and was 7;", 8);
        due.is("all eight", x.ask(0), 255);
        due.is("the last alone", x.ask(1), 128);
        due.is("none: always", x.ask(2), 0);
        due.is("none: never", x.ask(9), 0);
        due.is("the first and the last", x.ask(3), 129);
        x.fact(0, false, true);
        due.is("what is known needn't be asked", x.ask(3), 128);
        due.is("but what isn't", x.ask(0), 254);
        x.fact(7, false, false);
        due.is("none: it is known", x.ask(3), 0);
        x.fact(2, true, false);
        due.is("none LEFT", x.ask(0), 0);
        WhatWasNearly y = Due.ruled("event was 1;may way=0 or way=3;", 2);
        due.is("of like ones the lowest", y.ask(0), 1);
        WhatWasNearly z = Due.ruled("event was 2;may way=0 or way=5 or way=6 or way=3;", 3);
        due.is("fewer, though not lower", z.ask(0), 4);
    }

    @Says("HALVES: the CHOICE that is 1 in as near to half of the WAYS LEFT as can be, alike in not all of them; of like "
        + "ones the lowest; none.")
    static void halves(Due due) {
        WhatWasNearly x = Due.ruled("", 8);
        due.is("of like ones the lowest", x.halves(), 0);
        x.fact(0, false, true);
        due.is("not one that is alike", x.halves(), 1);
        for (int k = 1; k < 7; k++) {
            x.fact(k, false, false);
        }
        due.is("the last", x.halves(), 7);
        x.fact(7, false, true);
        due.is("none: one LEFT", x.halves(), NONE);
        Due.text(x, NEVER);
        x.by(1);
        due.is("none LEFT", x.halves(), NONE);
        due.is("without choices", new WhatWasNearly().halves(), NONE);
        // 1 in one of four, in two of four, in two of four
        WhatWasNearly y = Due.ruled("may way=0 or way=2 or way=4 or way=7;", 3);
        due.is("as near as can be", y.halves(), 1);
        // 1 in two of three, in two of three, in one of three: alike far from the half
        WhatWasNearly z = Due.ruled("may way=0 or way=3 or way=7;", 3);
        due.is("above and below are alike", z.halves(), 0);
        WhatWasNearly w = Due.ruled("may way=1 or way=3 or way=5 or way=9;", 4);
        due.is("1 in all isn't", w.halves(), 1);
    }

    @Says("LEAST that would have had to go otherwise: the fewest CHOICES (bits) to be TURNED from WAS, to a WAY that may "
        + "be, in which an EVENT comes (or doesn't); of like ones the lowest set; none.")
    static void least(Due due) {
        WhatWasNearly x = Due.ruled("event many>=2;event many=8;event was 0;may way#3;", 8);
        due.is("none has to: it doesn't come", x.least(0, false), 0);
        due.is("two, the lowest that may be", x.least(0, true), 5);
        due.is("all eight", x.least(1, true), 255);
        due.is("an event that never comes", x.least(9, true), NONE);
        due.is("an event that never comes, not", x.least(9, false), 0);
        x.turn(7);
        due.is("one, the lowest", x.least(0, true), 1);
        due.is("from WAS", x.least(1, true), 127);
        x.turn(7);
        x.turn(0);
        x.turn(1);
        due.is("WAS may not be", x.least(0, true), 4);
        due.is("WAS may not be, for what doesn't come", x.least(0, false), 1);
        Due.text(x, "event 1=1;" + NEVER);
        x.by(1);
        due.is("no way may be", x.least(0, true), NONE);
        due.is("no way may be, not", x.least(1, false), NONE);
    }

    @Says("DOESN'T MATTER: CHOICES (bits) by whose turning alone an EVENT never changes, in any WAY (may aside).")
    static void noMatter(Due due) {
        WhatWasNearly x = Due.ruled("event way=255;event was 7;event was 0 and was 1;" + NEVER, 8);
        due.is("all matter, if in one way alone", x.noMatter(0), 0);
        due.is("one matters", x.noMatter(1), 127);
        due.is("two matter", x.noMatter(2), 252);
        due.is("none matters", x.noMatter(9), 255);
        due.is("without choices", new WhatWasNearly().noMatter(0), 0);
        WhatWasNearly y = Due.ruled("", 3);
        due.is("all told ones", y.noMatter(0), 7);
    }

    @Says("TURNS IT: in how many WAYS (may aside) turning a CHOICE changes an EVENT, by all WAYS, in lowest terms.")
    static void turnsIt(Due due) {
        WhatWasNearly x = Due.ruled("event way=255;event was 7;event was 0 and was 1 or was 2;" + NEVER, 8);
        due.is("in two of 256", x.turnsIt(0, 0, false), 1);
        due.is("in two of 256, low", x.turnsIt(0, 0, true), 128);
        due.is("in all", x.turnsIt(7, 1, false), 1);
        due.is("in all, low", x.turnsIt(7, 1, true), 1);
        due.is("in none", x.turnsIt(0, 1, false), 0);
        due.is("in none, low", x.turnsIt(0, 1, true), 1);
        due.is("3 of 4", x.turnsIt(2, 2, false), 3);
        due.is("3 of 4, low", x.turnsIt(2, 2, true), 4);
        due.is("one that isn't there", x.turnsIt(0, 9, false), 0);
        due.is("one that isn't there, low", x.turnsIt(0, 9, true), 1);
    }

    @Says("LEAN ON: EVENTS (bits) that turning a CHOICE changes in some WAY (may aside).")
    static void leanOn(Due due) {
        WhatWasNearly x = Due.ruled("event was 0;" + "event 1=2;".repeat(8) + "event way=255;" + NEVER, 8);
        due.is("the first and the last", x.leanOn(0), 513);
        due.is("in one way", x.leanOn(7), 512);
        x.by(NONE);
        due.is("none", x.leanOn(0), 0);
    }

    @Says("AGREE IN: with how many WAYS that may be a PIECE AGREES.")
    static void agreeIn(Due due) {
        WhatWasNearly x = Due.ruled("may way#255;", 8);
        x.piece(0, 0, 0, 0);
        x.piece(255, 0, 0, 0);
        x.piece(254, 1, 0, 0);
        due.is("all that may be", x.agreeIn(0), 255);
        due.is("one that may not be", x.agreeIn(1), 0);
        due.is("one that may be", x.agreeIn(2), 1);
        x.by(NONE);
        due.is("all", x.agreeIn(0), 256);
        due.is("one", x.agreeIn(1), 1);
    }

    @Says("THERE: whether a PERSON is THERE in a WAY; in how many of those LEFT.")
    static void there(Due due) {
        WhatWasNearly x = Due.ruled("event was 0;event was 1;may way#1;", 2);
        x.person(0, 1, NONE);
        x.person(NONE, NONE, NONE);
        int[] there = {0, 1, 0, 0};
        for (int way = 0; way < 4; way++) {
            due.is("in " + way + ", may aside", x.there(0, way), there[way]);
        }
        due.is("in those LEFT", x.thereIn(0), 0);
        due.is("as ever: in all LEFT", x.thereIn(1), 3);
        x.fact(0, false, true);
        due.is("in one LEFT", x.thereIn(1), 1);
        x.fact(0, false, false);
        due.is("none LEFT", x.thereIn(1), 0);
        x.by(NONE);
        x.fact(NONE, false, false);
        due.is("without a text", x.thereIn(1), 4);
    }

    @Says("LOOKED FOR: PEOPLE (bits) who are THERE in a WAY and aren't in WAS.")
    static void lookedFor(Due due) {
        WhatWasNearly x = Due.ruled("event was 0;", 1);
        for (int i = 0; i < 8; i++) {
            x.person(i == 3 ? NONE : 0, NONE, NONE);
        }
        due.is("all but the one who is in WAS too", x.lookedFor(1), 255 - 8);
        due.is("in WAS itself", x.lookedFor(0), 0);
        x.turn(0);
        due.is("from WAS as it IS by now", x.lookedFor(1), 0);
        due.is("who isn't there any more isn't looked for", x.lookedFor(0), 0);
        due.is("no people", new WhatWasNearly().lookedFor(0), 0);
    }

    @Says("ELDERS: a PERSON's parent, that one's, .. (bits).")
    static void elders(Due due) {
        WhatWasNearly x = new WhatWasNearly();
        for (int i = 0; i < 8; i++) {
            x.person(NONE, NONE, i - 1);
            due.is("elders of " + i, x.elders(i), (1 << i) - 1);
        }
        WhatWasNearly y = new WhatWasNearly();
        y.person(NONE, NONE, NONE);
        y.person(NONE, NONE, NONE);
        y.person(NONE, NONE, 0);
        due.is("not those between", y.elders(2), 1);
    }

    @Says("A WALK from a WAY to another one by doors: each turns one CHOICE; each WAY on it (the first, the last, too) "
        + "may be: the fewest doors;")
    static void walk(Due due) {
        WhatWasNearly x = Due.ruled("may way#1 and way#2 and way#255;", 8);
        due.is("by one door", x.walk(0, 4, NONE), 1);
        due.is("round what may not be", x.walk(0, 3, NONE), 4);
        due.is("the first may not be", x.walk(1, 0, NONE), -2);
        due.is("the last may not be", x.walk(0, 1, NONE), -2);
        due.is("the highest may not be", x.walk(254, 255, NONE), -2);
        WhatWasNearly y = Due.ruled("", 8);
        due.is("the farthest", y.walk(0, 255, NONE), 8);
        due.is("backwards", y.walk(255, 0, NONE), 8);
    }

    @Says("of like ones the lowest first CHOICE, then the second, ..: how many (0: it is there), the CHOICE of the i-th "
        + "door; none.")
    static void walkDoors(Due due) {
        WhatWasNearly x = Due.ruled("may way#1 and way#6 and way#12;", 4);
        int[] doors = {1, 0, 2};
        due.is("how many", x.walk(0, 7, NONE), 3);
        for (int i = 0; i < 3; i++) {
            due.is("door " + i, x.walk(0, 7, i), doors[i]);
        }
        due.is("no such door", x.walk(0, 7, 3), -2);
        due.is("it is there", x.walk(7, 7, NONE), 0);
        due.is("it is there: no door", x.walk(7, 7, 0), -2);
        due.is("it is there, but may not be", x.walk(1, 1, NONE), -2);
        due.is("none", x.walk(0, 12, NONE), -2);
        due.is("none: no door", x.walk(0, 12, 0), -2);
        WhatWasNearly y = Due.ruled("", 8);
        for (int i = 0; i < 8; i++) {
            due.is("the lowest first, then the next " + i, y.walk(255, 0, i), i);
        }
        due.is("a 9th door", y.walk(255, 0, 8), -2);
        WhatWasNearly z = Due.ruled("may way=0 or way=3;", 2);
        due.is("both may be, but no way between", z.walk(0, 3, NONE), -2);
        due.is("without choices", new WhatWasNearly().walk(0, 0, NONE), 0);
    }

    @Says("NEXT DOOR: twos of ROOMS whose WAYS differ in just one CHOICE.")
    static void nextDoor(Due due) {
        WhatWasNearly x = Due.ruled("", 8);
        due.is("no rooms", x.nextDoor(), 0);
        x.room(0, 1);
        due.is("one room", x.nextDoor(), 0);
        x.room(0, 1);
        due.is("in none", x.nextDoor(), 0);
        x.room(128, 1);
        due.is("in one", x.nextDoor(), 2);
        x.room(3, 1);
        due.is("in two or three", x.nextDoor(), 2);
        x.room(1, 1);
        x.room(129, 1);
        // 0-128, 0-128, 0-1, 0-1, 128-129, 3-1, 1-129
        due.is("six rooms", x.nextDoor(), 7);
    }

    @Says("EMPTY: ROOMS (bits) without a PIECE.")
    static void empty(Due due) {
        WhatWasNearly x = new WhatWasNearly();
        due.is("no rooms", x.empty(), 0);
        x.piece(0, 0, 0, 0);
        x.piece(0, 0, 0, 0);
        for (int i = 0; i < 6; i++) {
            x.room(0, 1);
        }
        due.is("all", x.empty(), 63);
        x.put(0, 0);
        x.put(1, 5);
        due.is("all but the first and the last", x.empty(), 30);
        x.take(1);
        due.is("the last again", x.empty(), 62);
    }

    @Says("CURATORS: two TEXTS: the first EVENT (0 .. 9; one that a TEXT hasn't doesn't come) in which they differ of a "
        + "WAY; none;")
    static void curators(Due due) {
        WhatWasNearly x = Due.ruled("event was 0;" + "event 1=1;".repeat(8) + "event was 1;" + NEVER, 2);
        Due.text(x, "event 1=2;" + "event 1=1;".repeat(8) + "event 1=2;");
        Due.text(x, "");
        due.is("none", x.differ(0, 1, 0), NONE);
        due.is("the first", x.differ(0, 1, 1), 0);
        due.is("the last", x.differ(0, 1, 2), 9);
        due.is("of two the first", x.differ(0, 1, 3), 0);
        due.is("one that a text hasn't", x.differ(1, 2, 0), 1);
        due.is("the other way round", x.differ(2, 1, 0), 1);
        due.is("itself", x.differ(0, 0, 3), NONE);
        Due.text(x, "event 1=2;event 1=2;");
        due.is("what doesn't come, as one that a text hasn't", x.differ(2, 3, 0), NONE);
    }

    @Says("in how many WAYS (may aside) they differ in some EVENT.")
    static void unlike(Due due) {
        WhatWasNearly x = Due.ruled("event was 0;" + NEVER, 8);
        Due.text(x, "event not was 0;");
        Due.text(x, "");
        Due.text(x, "event was 0;event way=255;");
        due.is("in all", x.unlike(0, 1), 256);
        due.is("in none", x.unlike(0, 0), 0);
        due.is("in half", x.unlike(2, 1), 128);
        due.is("in one", x.unlike(0, 3), 1);
        WhatWasNearly y = Due.ruled("event 1=1;", 0);
        Due.text(y, "");
        due.is("without choices", y.unlike(0, 1), 1);
    }

    @Says("GIFTS: PIECES (bits) that AGREE with WAS.")
    static void gifts(Due due) {
        WhatWasNearly x = Due.ruled(NEVER, 1);
        due.is("no pieces", x.gifts(), 0);
        for (int i = 0; i < 10; i++) {
            x.piece(i & 1, 0, 0, 0);
        }
        due.is("some", x.gifts(), 0b0101010101);
        x.turn(0);
        due.is("all", x.gifts(), 1023);
    }

    @Says("CHANCE that an EVENT comes: by all WAYS (may aside), each CHOICE 1 with its ODDS of 10; that a WAY came; in "
        + "lowest terms.")
    static void chances(Due due) {
        WhatWasNearly x = new WhatWasNearly();
        due.is("without choices", x.chanceOf(0, false), 1);
        due.is("without choices, low", x.chanceOf(0, true), 1);
        due.is("never, without choices", x.chance(0, false), 0);
        due.is("never, without choices, low", x.chance(0, true), 1);
        int[] odds = {0, 10, 5, 9, 9, 9, 9, 9};
        for (int k = 0; k < 8; k++) {
            x.choice(0, odds[k]);
        }
        Due.text(x, "event was 0;event was 1;event was 2;event was 3;event was 3 and was 4 and was 5 and was 6 and was 7;"
            + NEVER);
        x.by(0);
        int[] upper = {0, 1, 1, 9, 59049, 0};
        int[] lower = {1, 1, 2, 10, 100000, 1};
        for (int event = 0; event < 6; event++) {
            due.is("chance " + event, x.chance(event, false), upper[event]);
            due.is("chance " + event + ", low", x.chance(event, true), lower[event]);
        }
        due.is("a way with a choice of odds 0", x.chanceOf(255, false), 0);
        due.is("a way with a choice of odds 0, low", x.chanceOf(255, true), 1);
        due.is("a way", x.chanceOf(254, false), 59049);
        due.is("a way, low", x.chanceOf(254, true), 200000);
        WhatWasNearly y = new WhatWasNearly();
        for (int k = 0; k < 8; k++) {
            y.choice(0, 9);
        }
        Due.text(y, "event way=255;event way#255;");
        y.by(0);
        due.is("the longest", y.chance(0, false), 43046721);
        due.is("the longest, low", y.chance(0, true), 100000000);
        due.is("the other one", y.chance(1, false), 100000000 - 43046721);
        due.is("the least", y.chanceOf(0, false), 1);
        due.is("the least, low", y.chanceOf(0, true), 100000000);
    }

    @Says("HOW NEARLY an EVENT: the greatest chance of a WAY unlike WAS (may aside) in which the EVENT is otherwise than "
        + "in WAS: that WAY, of like ones the lowest; none (no such WAY; a chance of 0 counts).")
    static void nearly(Due due) {
        WhatWasNearly x = new WhatWasNearly();
        x.choice(0, 5);
        x.choice(0, 6);
        x.choice(0, 0);
        Due.text(x, "event many=1;event was 2;event was 0 and was 1;" + NEVER);
        x.by(0);
        due.is("the greatest: 5*6 of 2, 5*4 of 1", x.nearly(0), 2);
        due.is("a chance of 0 counts, the lowest", x.nearly(1), 4);
        due.is("no such way", x.nearly(9), NONE);
        x.turn(0);
        due.is("to one in which it doesn't come: 30 of 3, 20 of 0", x.nearly(0), 3);
        WhatWasNearly y = Due.ruled("event was 7;", 8);
        due.is("of like ones the lowest", y.nearly(0), 128);
        y.turn(7);
        due.is("of like ones the lowest, back", y.nearly(0), 0);
        due.is("without choices", new WhatWasNearly().nearly(0), NONE);
    }

    @Says("LAID OUT: a set of 1 to 6 PIECES into ROOMS with whose WAYS they AGREE (as many as each has room for; others "
        + "aside, wherever they are): the most;")
    static void laidOut(Due due) {
        WhatWasNearly x = Due.ruled(NEVER, 1);
        for (int i = 0; i < 10; i++) {
            x.piece(i < 5 ? 0 : 1, 0, 0, 0);
        }
        due.is("no rooms", x.laidOut(1, NONE), 0);
        x.room(0, 2);
        x.room(1, 3);
        due.is("one piece", x.laidOut(1, NONE), 1);
        due.is("six pieces", x.laidOut(0b1111110000, NONE), 4);
        due.is("five that fit but one room", x.laidOut(0b1111100000, NONE), 3);
        due.is("four that fit both", x.laidOut(15, NONE), 4);
        due.is("as many as there is room for", x.laidOut(0b0000111111, NONE), 5);
        due.is("none", x.laidOut(0, NONE), -2);
        due.is("seven", x.laidOut(127, NONE), -2);
        for (int i = 0; i < 5; i++) {
            x.put(i, i < 2 ? 0 : 1);
        }
        due.is("others are in all rooms", x.laidOut(0b1111100000, NONE), 3);
        due.is("those of the set are there, too", x.laidOut(0b0000111111, NONE), 5);
        x.set(1, 0);
        due.is("none agrees any more", x.laidOut(0b1111100000, NONE), 0);
        x.set(0, 1);
        due.is("with the other room", x.laidOut(0b1111100000, NONE), 2);
    }

    @Says("of like ones the lowest ROOM (none behind all) for the lowest PIECE, then the next, ..: how many, the ROOM of a "
        + "PIECE (NONE).")
    static void laidWhere(Due due) {
        WhatWasNearly x = Due.ruled("", 1);
        x.piece(0, 0, 0, 0);
        x.piece(0, 1, 0, 0);
        x.piece(0, 0, 0, 0);
        x.piece(1, 0, 0, 0);
        x.room(0, 1);
        x.room(1, 2);
        laid(due, x, 1, 0);
        laid(due, x, 5, 0, 1);
        // the lowest yields: else the second could be nowhere
        laid(due, x, 3, 1, 0);
        laid(due, x, 7, 1, 0, 1);
        // one too many: the lowest needn't yield any more, and the second is in none
        laid(due, x, 15, 0, NONE, 1, 1);
        WhatWasNearly y = Due.ruled("", 1);
        for (int i = 0; i < 6; i++) {
            y.piece(i == 0 ? 1 : 0, 0, 0, 0);
            y.room(0, 1);
        }
        laid(due, y, 63, NONE, 0, 1, 2, 3, 4);
        WhatWasNearly z = Due.ruled("", 0);
        for (int i = 0; i < 6; i++) {
            z.piece(0, 0, 0, 0);
        }
        laid(due, z, 63, NONE, NONE, NONE, NONE, NONE, NONE);
        z.room(0, 5);
        laid(due, z, 63, 0, 0, 0, 0, 0, NONE);
        z.room(0, 1);
        laid(due, z, 63, 0, 0, 0, 0, 0, 1);
    }

    /** The rooms of the pieces of a set, from the lowest on. */
    private static void laid(Due due, WhatWasNearly x, int pieces, int... rooms) {
        int at = 0;
        int many = 0;
        for (int i = 0; i < 10; i++) {
            if ((pieces >> i & 1) == 1) {
                many += rooms[at] == NONE ? 0 : 1;
                due.is("room of " + i + " of " + pieces, x.laidOut(pieces, i), rooms[at++]);
            }
        }
        due.is("how many of " + pieces, x.laidOut(pieces, NONE), many);
    }

    @Says("ALIKE: WAYS (may aside) in which the same EVENTS come as in a WAY: how many.")
    static void alike(Due due) {
        WhatWasNearly x = Due.ruled("event was 0;event way=255;" + NEVER, 8);
        due.is("half", x.alike(0), 128);
        due.is("half but one", x.alike(1), 127);
        due.is("itself alone", x.alike(255), 1);
        x.by(NONE);
        due.is("without a text: all", x.alike(255), 256);
        due.is("without choices", new WhatWasNearly().alike(0), 1);
    }

    @Says("YEARS by a SEED: X is SEED (0 .. 9999) * 2 + 89;")
    static void seeds(Due due) {
        due.is("of 0", after(0, 1), 27516);
        due.is("of 9999", after(9999, 1), 12145);
        for (int seed : Museums.outside(0, 9999)) {
            due.refuses("seed " + seed, Museums::some, x -> x.years(seed, 1), NONE);
        }
        // by the seed, not by X as it was
        WhatWasNearly x = new WhatWasNearly();
        x.years(9999, 40);
        x.years(0, 1);
        due.is("once more", x.about(4), 27516);
    }

    private static int after(int seed, int n) {
        WhatWasNearly x = new WhatWasNearly();
        x.years(seed, n);
        return x.about(4);
    }

    @Says("n times (1 .. 40):")
    static void manyYears(Due due) {
        for (int n = 1; n <= 40; n++) {
            int want = 9999 * 2 + 89;
            for (int i = 0; i < n; i++) {
                want = (want * 307 + 193) % 30319;
            }
            due.is("X behind " + n, after(9999, n), want);
        }
        for (int n : Museums.outside(1, 40)) {
            due.refuses("n " + n, Museums::some, x -> x.years(1, n), NONE);
        }
    }

    @Says("x is X, X anew ((X * 307 + 193) mod 30319):")
    static void newX(Due due) {
        // 97 * 307 + 193 is 29972, 99 * 307 + 193 is 30586
        due.is("below 30319", after(4, 1), 29972);
        due.is("above it", after(5, 1), 267);
        due.is("and once more", after(5, 2), (267 * 307 + 193) % 30319);
    }

    @Says("x mod 4: 0 CHOICE x mod how many there are is TURNED;")
    static void yearsTurn(Due due) {
        // by seed 0: 89, then 27516: 0 of 4, 0 of 3, 1 of 5, 6 of 7, 4 of 8
        int[] turned = {-1, 0, 0, 0, 0, 1, 0, 6, 4};
        for (int told = 1; told <= 8; told++) {
            WhatWasNearly x = Due.ruled("", told);
            due.is("WAS of " + told, x.years(0, 2), 1 << turned[told]);
            due.is("back to 0 of " + told, x.years(0, 2), 0);
        }
    }

    @Says("1 ROOM x mod how many there are is SET to the WAY x / 4 mod how many WAYS there are;")
    static void yearsSet(Due due) {
        // by seed 0: 89: 1 of 4; 22 by 4; room 89 of 6: 5, of 4: 1
        for (int told = 0; told <= 8; told++) {
            WhatWasNearly x = Due.ruled("", told);
            for (int i = 0; i < 6; i++) {
                x.room(0, 1);
            }
            x.years(0, 1);
            for (int i = 0; i < 6; i++) {
                due.is("way of " + i + " with " + told, x.ofRoom(i, 0), i == 5 ? 22 % (1 << told) : 0);
            }
            x.years(0, 1);
            due.is("set to what it is: nothing changes", x.ofRoom(5, 0), 22 % (1 << told));
        }
        WhatWasNearly y = Due.ruled("", 8);
        for (int i = 0; i < 4; i++) {
            y.room(255, 1);
        }
        y.years(0, 1);
        due.is("room 1 of four", y.ofRoom(1, 0), 22);
        // by seed 9998: 20085: 1 of 4; 5021 by 4, of 256: 157; room 20085 of 4: 1
        y.years(9998, 1);
        due.is("a later way", y.ofRoom(1, 0), 157);
        WhatWasNearly z = Due.ruled("", 1);
        z.room(1, 1);
        z.years(0, 1);
        due.is("the only room", z.ofRoom(0, 0), 0);
    }

    @Says("2 PIECE x mod how many there are is PUT in ROOM x mod how many there are (if it has room, and it isn't there);")
    static void yearsPut(Due due) {
        // by seed 1: 91 (3 of 4: piece 91 of 3, which is 1, is taken), then 28130: 2 of 4, piece 2 of 3, room 0 of 2
        WhatWasNearly x = new WhatWasNearly();
        for (int i = 0; i < 3; i++) {
            x.piece(0, 0, 0, 0);
        }
        x.room(0, 1);
        x.room(0, 9);
        x.years(1, 2);
        due.is("put", x.ofPiece(2, 4), 0);
        x.years(1, 2);
        due.is("it is there", x.ofPiece(2, 4), 0);
        x.put(2, 1);
        x.put(0, 0);
        x.years(1, 2);
        due.is("it has no room", x.ofPiece(2, 4), 1);
        due.is("who was there stays", x.ofPiece(0, 4), 0);
        x.take(0);
        x.years(1, 2);
        due.is("out of the one it is in", x.ofPiece(2, 4), 0);
        WhatWasNearly y = new WhatWasNearly();
        y.piece(0, 0, 0, 0);
        y.room(0, 1);
        y.years(1, 2);
        due.is("the only piece, in the only room", y.ofPiece(0, 4), 0);
    }

    @Says("3 that PIECE is TAKEN (if it is in one).")
    static void yearsTake(Due due) {
        // by seed 1: 91: 3 of 4; piece 91 of 10: 1, of 2: 1
        WhatWasNearly x = new WhatWasNearly();
        x.room(0, 9);
        for (int i = 0; i < 10; i++) {
            x.piece(0, 0, 0, 0);
            x.put(i, 0);
        }
        x.years(1, 1);
        due.is("the second is taken", x.ofRoom(0, 2), 511 - 2);
        x.years(1, 1);
        due.is("it is in none", x.ofRoom(0, 2), 511 - 2);
        WhatWasNearly y = new WhatWasNearly();
        y.room(0, 1);
        y.piece(0, 0, 0, 0);
        y.put(0, 0);
        y.years(1, 1);
        due.is("the only piece", y.ofPiece(0, 4), NONE);
    }

    @Says("What there are none of isn't.")
    static void yearsOfNothing(Due due) {
        WhatWasNearly x = new WhatWasNearly();
        due.is("of nothing", x.years(9999, 40), 0);
        WhatWasNearly y = new WhatWasNearly();
        y.piece(0, 0, 0, 0);
        due.is("no rooms, no choices", y.years(1, 40), 0);
        due.is("the piece is in none", y.ofPiece(0, 4), NONE);
        WhatWasNearly z = new WhatWasNearly();
        z.room(0, 1);
        due.is("no pieces, no choices", z.years(1, 40), 0);
        due.is("the only way", z.ofRoom(0, 0), 0);
        for (WhatWasNearly w : Arrays.asList(x, y, z)) {
            due.is("X", w.about(4) != 89, true);
            due.is("steps", w.about(7), 1);
        }
    }

    @Says("It is one STEP: WAS.")
    static void yearsAreOneStep(Due due) {
        WhatWasNearly x = Museums.some();
        int steps = x.about(7);
        int was = x.was();
        int after = x.years(4321, 40);
        due.is("WAS", x.was(), after);
        due.is("one step", x.about(7), steps + 1);
        due.is("taken back", x.undo(), steps);
        due.is("WAS ahead of it", x.was(), was);
        due.refuses("years and undo", Museums::some, y -> y.years(777, 40) < 0 ? NONE : y.undo(), steps);
    }

    @Says("AN IMAGE: all as it is, but the tape and the latest FAULT.")
    static void image(Due due) {
        WhatWasNearly x = Museums.some();
        x.image();
        Due.text(x, "turn 8;");
        Due.feed(x, "may");
        x.back();
        due.is("the tape isn't in it", x.about(10), 3);
        due.is("nor the latest fault", x.fault(0), 2);
        due.is("nor its place", x.fault(1), 5);
        due.is("texts are", Due.text(x, ""), 2);
        due.is("another text", Due.text(x, ""), 3);
        due.is("four", x.text(), NONE);
        x.back();
        due.is("two again", x.about(5), 2);
        due.is("the third is told anew", Due.text(x, "event 1=1;"), 2);
        due.is("and is another one", x.differ(1, 2, 1), 0);
    }

    @Says("BACK: all is so again.")
    static void back(Due due) {
        due.refuses("some changed, and back", () -> imaged(Museums.some()), QuestionEdges::changeAndGoBack, 0);
        due.refuses("full changed, and back", () -> imaged(Museums.full()), QuestionEdges::changeAndGoBack, 0);
        due.refuses("bare changed, and back", () -> imaged(Museums.bare()), QuestionEdges::changeAndGoBack, 0);
        // fewer ways again: what is known of the others mustn't be heard
        WhatWasNearly y = Due.ruled("event was 0;event way>=4;event way=4;event way=5;", 2);
        for (int i = 0; i < 3; i++) {
            y.piece(1, 0, 0, 0);
            y.person(i, NONE, NONE);
        }
        y.room(0, 2);
        y.image();
        String before = answers(y);
        y.choice(0, 9);
        y.choice(1, 9);
        answers(y);
        y.back();
        due.is("all answers", answers(y).equals(before), true);
    }

    private static WhatWasNearly imaged(WhatWasNearly x) {
        x.image();
        return x;
    }

    /** Changes all but the tape and the fault. */
    private static int changeAndGoBack(WhatWasNearly x) {
        int was = x.was();
        for (int i = 0; i < 10; i++) {
            x.choice(1 - (i & 1), 10 - i);
            x.piece(0, 3, 5, 0);
            x.room(i, 9);
            x.person(NONE, i, 0);
            x.put(i, (i + 1) % 6);
            x.set(i, 0);
            x.take(i);
            x.turn(i);
        }
        x.fact(NONE, true, true);
        x.fact(2, true, false);
        x.by(NONE);
        x.played(1);
        x.years(88, 40);
        for (int i = 0; i < 40; i++) {
            x.undo();
        }
        x.years(89, 40);
        return x.back() - was;
    }
}
