import java.util.function.IntBinaryOperator;
import java.util.function.IntUnaryOperator;

/** Promises 18 to 27, 29 to 52 and 55, sentence by sentence: the calls that only ask. */
final class AskingEdges {
    private static final int NONE = WhatWasNearly.NONE;
    private static final String NEVER = "may 1=2;";

    /** A question of one number, which must be from 0 to the highest. */
    private static void others(Due due, int highest, int answer, IntUnaryOperator question) {
        for (int number : Museums.outside(0, highest)) {
            due.is("of " + number + ", above " + highest, question.applyAsInt(number), answer);
        }
        for (int number : new int[] {0, highest}) {
            if (number >= 0) {
                due.is("of " + number + " it is answered", question.applyAsInt(number) != answer, true);
            }
        }
    }

    /** A question of two numbers: either may be wrong, and both. */
    private static void others(Due due, int first, int second, int answer, IntBinaryOperator question) {
        others(due, first, answer, number -> question.applyAsInt(number, 0));
        others(due, second, answer, number -> question.applyAsInt(0, number));
        due.is("both wrong", question.applyAsInt(first + 1, second + 1), answer);
        due.is("both below", question.applyAsInt(-1, -1), answer);
        due.is("the last of both", question.applyAsInt(first, second) != answer, true);
    }

    /** Three choices, four pieces, two rooms, three people, two texts; the first rules, and all may be. */
    private static WhatWasNearly asked() {
        WhatWasNearly x = Due.ruled("event was 0;event was 1;", 3);
        Due.text(x, "event not was 0;");
        for (int i = 0; i < 4; i++) {
            x.piece(0, 0, 0, 0);
        }
        x.room(7, 9);
        x.room(0, 1);
        for (int i = 0; i < 3; i++) {
            x.person(NONE, NONE, i - 1);
        }
        return x;
    }

    @Says(at = "Promise 18", value = "Of a CHOICE: 0 IS, 1 ODDS.")
    static void ofChoice(Due due) {
        WhatWasNearly x = Museums.full();
        for (int k = 0; k < 8; k++) {
            due.is("IS of " + k, x.ofChoice(k, 0), x.was() >> k & 1);
            due.is("ODDS of " + k, x.ofChoice(k, 1), k + 1);
        }
        WhatWasNearly y = new WhatWasNearly();
        y.choice(1, 0);
        y.choice(0, 10);
        y.turn(0);
        due.is("IS, by now", y.ofChoice(0, 0), 0);
        due.is("ODDS of 0", y.ofChoice(0, 1), 0);
        due.is("ODDS of 10", y.ofChoice(1, 1), 10);
    }

    @Says(at = "Promise 18", value = "NONE for others.")
    static void ofChoiceOthers(Due due) {
        others(due, 2, 1, NONE, asked()::ofChoice);
        others(due, 7, 1, NONE, Museums.full()::ofChoice);
        due.is("of none", new WhatWasNearly().ofChoice(0, 0), NONE);
    }

    @Says(at = "Promise 19", value = "Of a PIECE: 0 .. 3 what it needs as told, 4 the ROOM it is in (NONE).")
    static void ofPiece(Due due) {
        WhatWasNearly x = Due.ruled("", 1);
        x.piece(129, 126, 513, 510);
        int[] needs = {129, 126, 513, 510};
        for (int what = 0; what < 4; what++) {
            due.is("need " + what, x.ofPiece(0, what), needs[what]);
        }
        due.is("in none", x.ofPiece(0, 4), NONE);
        for (int i = 0; i < 6; i++) {
            x.room(0, 1);
            x.put(0, i);
            due.is("in " + i, x.ofPiece(0, 4), i);
        }
        x.take(0);
        due.is("in none again", x.ofPiece(0, 4), NONE);
    }

    @Says(at = "Promise 19", value = "-2 for others.")
    static void ofPieceOthers(Due due) {
        others(due, 3, 4, -2, asked()::ofPiece);
        others(due, 9, 4, -2, Museums.full()::ofPiece);
        due.is("of none", new WhatWasNearly().ofPiece(0, 4), -2);
    }

    @Says(at = "Promise 20", value = "Of a ROOM: 0 its WAY, 1 for how many, 2 PIECES in it (bits).")
    static void ofRoom(Due due) {
        WhatWasNearly x = Due.ruled("", 8);
        for (int i = 0; i < 10; i++) {
            x.piece(0, 0, 0, 0);
        }
        x.room(255, 9);
        x.room(0, 1);
        due.is("WAY of 0", x.ofRoom(0, 0), 255);
        due.is("WAY of 1", x.ofRoom(1, 0), 0);
        due.is("for 9", x.ofRoom(0, 1), 9);
        due.is("for 1", x.ofRoom(1, 1), 1);
        due.is("nothing in it", x.ofRoom(0, 2), 0);
        for (int i = 9; i >= 0; i--) {
            x.put(i, 0);
        }
        due.is("nine in it", x.ofRoom(0, 2), 1022);
        x.put(0, 1);
        due.is("the lowest in 1", x.ofRoom(1, 2), 1);
    }

    @Says(at = "Promise 20", value = "NONE for others.")
    static void ofRoomOthers(Due due) {
        others(due, 1, 2, NONE, asked()::ofRoom);
        others(due, 5, 2, NONE, Museums.full()::ofRoom);
        due.is("of none", new WhatWasNearly().ofRoom(0, 0), NONE);
    }

    @Says(at = "Promise 21", value = "WAS.")
    static void was(Due due) {
        WhatWasNearly x = new WhatWasNearly();
        due.is("of none", x.was(), 0);
        x.choice(1, 0);
        due.is("of one", x.was(), 1);
        for (int k = 1; k < 8; k++) {
            x.choice(1, 0);
        }
        due.is("of eight", x.was(), 255);
    }

    @Says(at = "Promise 22", value = "Whether a PIECE AGREES with a WAY (1, 0).")
    static void agrees(Due due) {
        WhatWasNearly x = Due.ruled("event was 0;" + NEVER, 8);
        for (int i = 0; i < 9; i++) {
            x.piece(0, 0, 0, 0);
        }
        x.piece(128, 0, 1, 0);
        due.is("it does, may aside", x.agrees(9, 129), 1);
        due.is("without its event", x.agrees(9, 128), 0);
        due.is("without its choice", x.agrees(9, 127), 0);
        due.is("the first with the last way", x.agrees(0, 255), 1);
    }

    @Says(at = "Promise 22", value = "NONE for others.")
    static void agreesOthers(Due due) {
        others(due, 3, 7, NONE, asked()::agrees);
        others(due, 9, 255, NONE, Museums.full()::agrees);
        due.is("of none", new WhatWasNearly().agrees(0, 0), NONE);
    }

    @Says(at = "Promise 23", value = "FOLLOWS: EVENTS (bits).")
    static void follows(Due due) {
        WhatWasNearly x = Due.ruled("event 1=1;".repeat(10) + NEVER, 8);
        due.is("all ten, may aside", x.follows(255), 1023);
        x.by(NONE);
        due.is("without a text", x.follows(255), 0);
    }

    @Says(at = "Promise 23", value = "NONE for others (not a WAY).")
    static void followsOthers(Due due) {
        others(due, 0, NONE, new WhatWasNearly()::follows);
        others(due, 7, NONE, asked()::follows);
        others(due, 255, NONE, Museums.full()::follows);
    }

    @Says(at = "Promise 24", value = "Whether a WAY may be (1, 0).")
    static void mayBe(Due due) {
        WhatWasNearly x = Due.ruled("may way=0 or way=255;", 8);
        int many = 0;
        for (int way = 0; way < 256; way++) {
            many += x.mayBe(way);
        }
        due.is("how many", many, 2);
        due.is("the first", x.mayBe(0), 1);
        due.is("the second", x.mayBe(1), 0);
        due.is("the last but one", x.mayBe(254), 0);
        due.is("the last", x.mayBe(255), 1);
    }

    @Says(at = "Promise 24", value = "NONE for others.")
    static void mayBeOthers(Due due) {
        others(due, 0, NONE, new WhatWasNearly()::mayBe);
        others(due, 7, NONE, asked()::mayBe);
        others(due, 255, NONE, Museums.full()::mayBe);
    }

    @Says(at = "Promise 25", value = "CAN'T BE.")
    static void cannot(Due due) {
        WhatWasNearly x = Due.ruled("", 1);
        for (int i = 0; i < 10; i++) {
            x.piece(1, 0, 0, 0);
        }
        x.room(0, 9);
        for (int i = 9; i > 0; i--) {
            x.put(i, 0);
            due.is("the lowest is " + i, x.cannot(), i);
        }
        x.take(9);
        x.put(0, 0);
        due.is("the lowest of all", x.cannot(), 0);
    }

    @Says(at = "Promise 25", value = "NONE: none.")
    static void cannotNone(Due due) {
        due.is("of a bare one", new WhatWasNearly().cannot(), NONE);
        WhatWasNearly x = asked();
        due.is("all in none", x.cannot(), NONE);
        for (int i = 0; i < 4; i++) {
            x.put(i, 0);
        }
        due.is("all agree", x.cannot(), NONE);
    }

    @Says(at = "Promise 26", value = "MOST AGREE of a set of PIECES: how many (way false), the WAY (way true).")
    static void most(Due due) {
        WhatWasNearly x = Due.ruled("", 8);
        for (int i = 0; i < 10; i++) {
            x.piece(i == 9 ? 0 : 1 << i % 8, i == 9 ? 1 : 0, 0, 0);
        }
        due.is("nine of ten", x.most(1023, false), 9);
        due.is("their way", x.most(1023, true), 255);
        due.is("the last alone", x.most(512, false), 1);
        due.is("its way", x.most(512, true), 0);
        due.is("the empty set", x.most(0, false), 0);
        due.is("its way", x.most(0, true), 0);
        WhatWasNearly y = new WhatWasNearly();
        due.is("the empty set of none", y.most(0, false), 0);
        due.is("its way", y.most(0, true), 0);
    }

    @Says(at = "Promise 26", value = "NONE: none, and for others (PIECES not told).")
    static void mostOthers(Due due) {
        WhatWasNearly x = Due.ruled(NEVER, 2);
        x.piece(0, 0, 0, 0);
        due.is("none", x.most(1, false), NONE);
        due.is("none, the way", x.most(1, true), NONE);
        others(due, 15, NONE, pieces -> asked().most(pieces, false));
        others(due, 15, NONE, pieces -> asked().most(pieces, true));
        others(due, 1023, NONE, pieces -> Museums.full().most(pieces, true));
        due.is("the one behind those told", asked().most(16, true), NONE);
        due.is("with those told", asked().most(31, true), NONE);
        due.is("of a bare one", new WhatWasNearly().most(1, true), NONE);
    }

    @Says(at = "Promise 27", value = "CLASH of a set (bits).")
    static void clash(Due due) {
        WhatWasNearly x = Due.ruled("", 1);
        for (int i = 0; i < 10; i++) {
            x.piece(i == 0 ? 1 : 0, i == 9 ? 1 : 0, 0, 0);
        }
        due.is("the first and the last", x.clash(1023), 513);
        due.is("of these alone", x.clash(513), 513);
        x.choice(0, 5);
        due.is("as ever", x.clash(1023), 513);
    }

    @Says(at = "Promise 27", value = "NONE: none, and for others.")
    static void clashOthers(Due due) {
        WhatWasNearly x = asked();
        due.is("none", x.clash(15), NONE);
        due.is("none of the empty set", x.clash(0), NONE);
        due.is("none of a bare one", new WhatWasNearly().clash(0), NONE);
        due.is("one not told, of a bare one", new WhatWasNearly().clash(1), NONE);
        WhatWasNearly y = Due.ruled("", 1);
        y.piece(0, 0, 1, 0);
        for (int pieces : Museums.outside(0, 1)) {
            due.is("of " + pieces, y.clash(pieces), NONE);
        }
        due.is("with one not told", y.clash(3), NONE);
        due.is("without it", y.clash(1), 1);
    }

    @Says(at = "Promise 29", value = "LEFT: how many (i NONE), the i-th.")
    static void left(Due due) {
        WhatWasNearly x = Due.ruled("may was 7;", 8);
        due.is("how many", x.left(NONE), 128);
        for (int i = 0; i < 128; i++) {
            due.is("the i-th " + i, x.left(i), 128 + i);
        }
    }

    @Says(at = "Promise 29", value = "NONE if there is none such, and for others.")
    static void leftOthers(Due due) {
        WhatWasNearly x = asked();
        due.is("the last", x.left(7), 7);
        due.is("none such", x.left(8), NONE);
        due.is("below NONE", x.left(-2), NONE);
        due.is("far below", x.left(Integer.MIN_VALUE), NONE);
        due.is("far above", x.left(Integer.MAX_VALUE), NONE);
        x.fact(2, true, true);
        due.is("none LEFT", x.left(NONE), 0);
        due.is("none such of none", x.left(0), NONE);
    }

    @Says(at = "Promise 30", value = "SURE (bits): CHOICES (events false), EVENTS 0 .. 9 that are alike (events true).")
    static void sure(Due due) {
        WhatWasNearly x = Due.ruled("event was 0;" + "event 1=1;".repeat(8) + "event was 7;", 8);
        due.is("no choice", x.sure(false), 0);
        due.is("all events but the first and the last", x.sure(true), 510);
        x.fact(7, false, true);
        due.is("the last choice", x.sure(false), 128);
        due.is("the last event, too", x.sure(true), 1022);
        x.fact(0, true, false);
        due.is("the first choice, too", x.sure(false), 129);
        due.is("all events", x.sure(true), 1023);
        due.is("choices not told aren't", asked().sure(false), 0);
        WhatWasNearly y = asked();
        y.fact(9, true, true);
        due.is("none LEFT: the told ones", y.sure(false), 7);
    }

    @Says(at = "Promise 31", value = "ASK (bits).")
    static void ask(Due due) {
        WhatWasNearly x = Due.ruled("event was 0 and was 7;" + "event 1=1;".repeat(8) + "event was 7;", 8);
        due.is("the first and the last", x.ask(0), 129);
        due.is("of event 9", x.ask(9), 128);
        due.is("nothing", x.ask(8), 0);
        due.is("without choices", new WhatWasNearly().ask(9), 0);
    }

    @Says(at = "Promise 31", value = "NONE for others (EVENTS 0 .. 9).")
    static void askOthers(Due due) {
        others(due, 9, NONE, asked()::ask);
        others(due, 9, NONE, new WhatWasNearly()::ask);
    }

    @Says(at = "Promise 32", value = "HALVES.")
    static void halves(Due due) {
        WhatWasNearly x = Due.ruled("", 8);
        due.is("the first", x.halves(), 0);
        for (int k = 0; k < 7; k++) {
            x.fact(k, false, (k & 1) == 0);
            due.is("the next", x.halves(), k + 1);
        }
    }

    @Says(at = "Promise 32", value = "NONE: none.")
    static void halvesNone(Due due) {
        due.is("without choices", new WhatWasNearly().halves(), NONE);
        due.is("one LEFT", Museums.full().halves(), NONE);
        due.is("none LEFT", Due.ruled(NEVER, 8).halves(), NONE);
    }

    @Says(at = "Promise 33", value = "LEAN ON (bits).")
    static void leanOn(Due due) {
        WhatWasNearly x = Due.ruled("event 1=1;".repeat(9) + "event was 7;", 8);
        due.is("the last on the last", x.leanOn(7), 512);
        due.is("none on the first", x.leanOn(0), 0);
    }

    @Says(at = "Promise 33", value = "NONE for others.")
    static void leanOnOthers(Due due) {
        others(due, 2, NONE, asked()::leanOn);
        others(due, 7, NONE, Museums.full()::leanOn);
        due.is("of none", new WhatWasNearly().leanOn(0), NONE);
    }

    @Says(at = "Promise 34", value = "AGREE IN.")
    static void agreeIn(Due due) {
        WhatWasNearly x = Due.ruled("", 8);
        for (int i = 0; i < 10; i++) {
            x.piece((1 << Math.min(i, 8)) - 1, 0, i == 9 ? 1 : 0, 0);
        }
        for (int i = 0; i < 10; i++) {
            due.is("of " + i, x.agreeIn(i), i == 9 ? 0 : 256 >> i);
        }
        x.by(0);
        due.is("by the empty text, too", x.agreeIn(0), 256);
        WhatWasNearly y = new WhatWasNearly();
        y.piece(0, 0, 0, 0);
        due.is("without choices", y.agreeIn(0), 1);
    }

    @Says(at = "Promise 34", value = "NONE for others.")
    static void agreeInOthers(Due due) {
        others(due, 3, NONE, asked()::agreeIn);
        others(due, 9, NONE, Museums.full()::agreeIn);
        due.is("of none", new WhatWasNearly().agreeIn(0), NONE);
    }

    @Says(at = "Promise 35", value = "ELDERS (bits).")
    static void elders(Due due) {
        WhatWasNearly x = Museums.full();
        due.is("of the first", x.elders(0), 0);
        due.is("of the last", x.elders(7), 127);
        due.is("not itself", x.elders(1), 1);
    }

    @Says(at = "Promise 35", value = "NONE for others.")
    static void eldersOthers(Due due) {
        others(due, 2, NONE, asked()::elders);
        others(due, 7, NONE, Museums.full()::elders);
        due.is("of none", new WhatWasNearly().elders(0), NONE);
    }

    @Says(at = "Promise 36", value = "NEXT DOOR: how many twos.")
    static void nextDoor(Due due) {
        WhatWasNearly x = Due.ruled("", 8);
        due.is("no rooms", x.nextDoor(), 0);
        for (int i = 0; i < 3; i++) {
            x.room(0, 1);
            x.room(128, 1);
        }
        due.is("three by three", x.nextDoor(), 9);
        x.set(5, 129);
        due.is("one of them is two doors off, but next to two", x.nextDoor(), 8);
    }

    @Says(at = "Promise 37", value = "EMPTY (bits).")
    static void empty(Due due) {
        due.is("no rooms", new WhatWasNearly().empty(), 0);
        due.is("all are full", Museums.full().empty(), 0);
        WhatWasNearly x = Museums.full();
        x.take(5);
        due.is("the last", x.empty(), 32);
        x.take(0);
        due.is("the first, too", x.empty(), 33);
    }

    @Says(at = "Promise 38", value = "LEAST (bits).")
    static void least(Due due) {
        WhatWasNearly x = Due.ruled("event way=255;" + "event 1=1;".repeat(8) + "event was 7;", 8);
        due.is("all", x.least(0, true), 255);
        due.is("the last, of event 9", x.least(9, true), 128);
        due.is("none has to", x.least(9, false), 0);
        due.is("none has to, it comes", x.least(8, true), 0);
    }

    @Says(at = "Promise 38", value = "NONE: none, and for others (EVENTS 0 .. 9).")
    static void leastOthers(Due due) {
        due.is("none", asked().least(9, true), NONE);
        due.is("none may be", Due.ruled(NEVER, 8).least(9, false), NONE);
        others(due, 9, NONE, event -> asked().least(event, false));
        for (int event : Museums.outside(0, 9)) {
            due.is("event " + event, asked().least(event, true), NONE);
        }
    }

    @Says(at = "Promise 39", value = "DOESN'T MATTER (bits).")
    static void noMatter(Due due) {
        WhatWasNearly x = Due.ruled("event was 0;" + "event 1=1;".repeat(8) + "event was 7;", 8);
        due.is("all but the first", x.noMatter(0), 254);
        due.is("all but the last", x.noMatter(9), 127);
        due.is("all", x.noMatter(8), 255);
        due.is("all that are told", asked().noMatter(9), 7);
    }

    @Says(at = "Promise 39", value = "NONE for others.")
    static void noMatterOthers(Due due) {
        others(due, 9, NONE, asked()::noMatter);
        others(due, 9, NONE, new WhatWasNearly()::noMatter);
    }

    @Says(at = "Promise 40", value = "TURNS IT: the upper (low false), the lower one (low true).")
    static void turnsIt(Due due) {
        WhatWasNearly x = Due.ruled("event was 7 and count(was 0,was 1)>0;" + "event 1=1;".repeat(8) + "event was 7;", 8);
        due.is("upper", x.turnsIt(7, 0, false), 3);
        due.is("lower", x.turnsIt(7, 0, true), 4);
        due.is("of event 9, upper", x.turnsIt(7, 9, false), 1);
        due.is("of event 9, lower", x.turnsIt(7, 9, true), 1);
        due.is("never, upper", x.turnsIt(0, 8, false), 0);
        due.is("never, lower", x.turnsIt(0, 8, true), 1);
    }

    @Says(at = "Promise 40", value = "NONE for others.")
    static void turnsItOthers(Due due) {
        WhatWasNearly x = asked();
        others(due, 2, 9, NONE, (choice, event) -> x.turnsIt(choice, event, false));
        others(due, 2, 9, NONE, (choice, event) -> x.turnsIt(choice, event, true));
        others(due, 7, 9, NONE, (choice, event) -> Museums.full().turnsIt(choice, event, true));
        due.is("of none", new WhatWasNearly().turnsIt(0, 0, true), NONE);
    }

    @Says(at = "Promise 41", value = "THERE (1, 0).")
    static void there(Due due) {
        WhatWasNearly x = Due.ruled("event was 0;event was 7;", 8);
        for (int i = 0; i < 8; i++) {
            x.person(i == 0 ? 0 : NONE, i == 7 ? 1 : NONE, i - 1);
        }
        due.is("the last by all ahead", x.there(7, 1), 1);
        due.is("not without the first", x.there(7, 0), 0);
        due.is("not with what mustn't come", x.there(7, 129), 0);
        due.is("but the one ahead", x.there(6, 255), 1);
    }

    @Says(at = "Promise 41", value = "NONE for others.")
    static void thereOthers(Due due) {
        others(due, 2, 7, NONE, asked()::there);
        others(due, 7, 255, NONE, Museums.full()::there);
        due.is("of none", new WhatWasNearly().there(0, 0), NONE);
    }

    @Says(at = "Promise 42", value = "THERE in how many of those LEFT.")
    static void thereIn(Due due) {
        WhatWasNearly x = Due.ruled("event was 0;may was 7;", 8);
        x.person(NONE, NONE, NONE);
        x.person(0, NONE, NONE);
        x.person(9, NONE, NONE);
        due.is("in all LEFT", x.thereIn(0), 128);
        due.is("in half of them", x.thereIn(1), 64);
        due.is("in none of them", x.thereIn(2), 0);
        x.fact(7, false, false);
        due.is("none LEFT", x.thereIn(0), 0);
    }

    @Says(at = "Promise 42", value = "NONE for others.")
    static void thereInOthers(Due due) {
        others(due, 2, NONE, asked()::thereIn);
        others(due, 7, NONE, Museums.full()::thereIn);
        due.is("of none", new WhatWasNearly().thereIn(0), NONE);
    }

    @Says(at = "Promise 43", value = "LOOKED FOR (bits).")
    static void lookedFor(Due due) {
        WhatWasNearly x = Due.ruled("event was 7;" + NEVER, 8);
        for (int i = 0; i < 8; i++) {
            x.person(i == 0 || i == 7 ? 0 : NONE, NONE, NONE);
        }
        due.is("the first and the last", x.lookedFor(255), 129);
        due.is("nobody", x.lookedFor(127), 0);
        due.is("no people", Due.ruled("", 8).lookedFor(255), 0);
    }

    @Says(at = "Promise 43", value = "NONE for others.")
    static void lookedForOthers(Due due) {
        others(due, 0, NONE, new WhatWasNearly()::lookedFor);
        others(due, 7, NONE, asked()::lookedFor);
        others(due, 255, NONE, Museums.full()::lookedFor);
    }

    @Says(at = "Promise 44", value = "A WALK: how many doors (i NONE), the CHOICE of the i-th.")
    static void walk(Due due) {
        WhatWasNearly x = Due.ruled("", 8);
        due.is("to where it is", x.walk(255, 255, NONE), 0);
        due.is("how many", x.walk(0, 255, NONE), 8);
        for (int i = 0; i < 8; i++) {
            due.is("door " + i, x.walk(0, 255, i), i);
        }
        due.is("one door, the last choice", x.walk(0, 128, 0), 7);
    }

    @Says(at = "Promise 44", value = "-2: none, there is none such, and for others.")
    static void walkOthers(Due due) {
        WhatWasNearly x = asked();
        others(due, 7, 7, -2, (from, to) -> x.walk(from, to, NONE));
        others(due, 255, 255, -2, (from, to) -> Museums.full().walk(from, to, NONE));
        others(due, 0, 0, -2, (from, to) -> new WhatWasNearly().walk(from, to, NONE));
        for (int i : Museums.outside(NONE, 2)) {
            due.is("door " + i + " of three", x.walk(0, 7, i), -2);
        }
        due.is("the last of three", x.walk(0, 7, 2), 2);
        due.is("the first of none", x.walk(3, 3, 0), -2);
        WhatWasNearly y = Due.ruled("may way#1 and way#2;", 2);
        due.is("none", y.walk(0, 3, NONE), -2);
        due.is("none, the first door", y.walk(0, 3, 0), -2);
    }

    @Says(at = "Promise 45", value = "CURATORS of a WAY: the EVENT.")
    static void differ(Due due) {
        WhatWasNearly x = Due.ruled("event 1=1;".repeat(9) + "event was 7;", 8);
        Due.text(x, "event 1=1;".repeat(9));
        due.is("event 9", x.differ(0, 1, 255), 9);
        due.is("the other way round", x.differ(1, 0, 255), 9);
        Due.text(x, "");
        due.is("event 0", x.differ(2, 0, 255), 0);
    }

    @Says(at = "Promise 45", value = "NONE: none, and for others.")
    static void differOthers(Due due) {
        WhatWasNearly x = asked();
        due.is("the last of all", x.differ(0, 1, 7), 0);
        due.is("none: itself", x.differ(1, 1, 7), NONE);
        for (int text : Museums.outside(0, 1)) {
            due.is("one " + text, x.differ(text, 0, 0), NONE);
            due.is("other " + text, x.differ(0, text, 0), NONE);
        }
        for (int way : Museums.outside(0, 7)) {
            due.is("way " + way, x.differ(0, 1, way), NONE);
        }
        due.is("texts of a full one", Museums.full().differ(3, 4, 255), NONE);
        due.is("of none", new WhatWasNearly().differ(0, 0, 0), NONE);
    }

    @Says(at = "Promise 46", value = "CURATORS: in how many WAYS.")
    static void unlike(Due due) {
        WhatWasNearly x = Due.ruled("event 1=1;".repeat(9) + "event way=255;", 8);
        Due.text(x, "event 1=1;".repeat(9));
        Due.text(x, "");
        due.is("in one", x.unlike(0, 1), 1);
        due.is("in all", x.unlike(2, 1), 256);
        due.is("in none", x.unlike(2, 2), 0);
    }

    @Says(at = "Promise 46", value = "NONE for others.")
    static void unlikeOthers(Due due) {
        others(due, 1, 1, NONE, asked()::unlike);
        others(due, 3, 3, NONE, Museums.full()::unlike);
        due.is("of none", new WhatWasNearly().unlike(0, 0), NONE);
    }

    @Says(at = "Promise 47", value = "GIFTS (bits).")
    static void gifts(Due due) {
        due.is("of none", new WhatWasNearly().gifts(), 0);
        WhatWasNearly x = Due.ruled("", 8);
        for (int i = 0; i < 10; i++) {
            x.piece(i > 0 && i < 9 ? 1 << i - 1 : 0, 0, 0, 0);
        }
        due.is("the first and the last", x.gifts(), 513);
        x.turn(7);
        due.is("one more", x.gifts(), 513 + 256);
    }

    @Says(at = "Promise 48", value = "CHANCE that an EVENT comes: the upper (low false), the lower one (low true).")
    static void chance(Due due) {
        WhatWasNearly x = new WhatWasNearly();
        x.choice(0, 4);
        Due.text(x, "event was 0;" + "event 1=1;".repeat(8) + "event not was 0;");
        x.by(0);
        due.is("upper", x.chance(0, false), 2);
        due.is("lower", x.chance(0, true), 5);
        due.is("of event 9, upper", x.chance(9, false), 3);
        due.is("of event 9, lower", x.chance(9, true), 5);
        due.is("always, upper", x.chance(8, false), 1);
        due.is("always, lower", x.chance(8, true), 1);
        x.by(NONE);
        due.is("never, upper", x.chance(0, false), 0);
        due.is("never, lower", x.chance(0, true), 1);
    }

    @Says(at = "Promise 48", value = "NONE for others.")
    static void chanceOthers(Due due) {
        others(due, 9, NONE, event -> asked().chance(event, false));
        others(due, 9, NONE, event -> asked().chance(event, true));
        others(due, 9, NONE, event -> new WhatWasNearly().chance(event, true));
    }

    @Says(at = "Promise 49", value = "CHANCE of a WAY: the upper (low false), the lower one (low true).")
    static void chanceOf(Due due) {
        WhatWasNearly x = new WhatWasNearly();
        for (int k = 0; k < 8; k++) {
            x.choice(1, k == 0 ? 4 : 10);
        }
        due.is("upper", x.chanceOf(255, false), 2);
        due.is("lower", x.chanceOf(255, true), 5);
        due.is("upper of the other", x.chanceOf(254, false), 3);
        due.is("lower of the other", x.chanceOf(254, true), 5);
        due.is("upper of never", x.chanceOf(0, false), 0);
        due.is("lower of never", x.chanceOf(0, true), 1);
    }

    @Says(at = "Promise 49", value = "NONE for others.")
    static void chanceOfOthers(Due due) {
        others(due, 0, NONE, way -> new WhatWasNearly().chanceOf(way, true));
        others(due, 7, NONE, way -> asked().chanceOf(way, false));
        others(due, 255, NONE, way -> Museums.full().chanceOf(way, true));
    }

    @Says(at = "Promise 50", value = "HOW NEARLY: the WAY.")
    static void nearly(Due due) {
        WhatWasNearly x = Due.ruled("event way=255;" + "event 1=1;".repeat(8) + "event was 7;", 8);
        due.is("the last", x.nearly(0), 255);
        due.is("of event 9", x.nearly(9), 128);
        x.turn(7);
        due.is("otherwise than it is by now", x.nearly(9), 0);
    }

    @Says(at = "Promise 50", value = "NONE: none, and for others.")
    static void nearlyOthers(Due due) {
        WhatWasNearly x = Due.ruled("event was 0;".repeat(10), 1);
        others(due, 9, NONE, x::nearly);
        due.is("none", asked().nearly(9), NONE);
        due.is("of none", new WhatWasNearly().nearly(0), NONE);
    }

    @Says(at = "Promise 51", value = "LAID OUT: how many (piece NONE), the ROOM of a PIECE (NONE).")
    static void laidOut(Due due) {
        WhatWasNearly x = Due.ruled("", 1);
        for (int i = 0; i < 10; i++) {
            x.piece(i == 8 ? 1 : 0, 0, 0, 0);
        }
        for (int i = 0; i < 6; i++) {
            x.room(0, 1);
        }
        due.is("how many of the last six", x.laidOut(1008, NONE), 5);
        int[] rooms = {0, 1, 2, 3, NONE, 4};
        for (int i = 4; i < 10; i++) {
            due.is("the room of " + i, x.laidOut(1008, i), rooms[i - 4]);
        }
        due.is("one that is nowhere", x.laidOut(256, NONE), 0);
        due.is("its room", x.laidOut(256, 8), NONE);
    }

    @Says(at = "Promise 51", value = "-2 for others.")
    static void laidOutOthers(Due due) {
        WhatWasNearly x = Museums.full();
        due.is("no pieces", x.laidOut(0, NONE), -2);
        due.is("one", x.laidOut(1, NONE) != -2, true);
        due.is("six", x.laidOut(63, NONE) != -2, true);
        due.is("seven", x.laidOut(127, NONE), -2);
        due.is("ten", x.laidOut(1023, NONE), -2);
        due.is("an 11th", x.laidOut(1024, NONE), -2);
        due.is("one told and one not", asked().laidOut(17, NONE), -2);
        due.is("the last told", asked().laidOut(8, NONE), 1);
        due.is("below", x.laidOut(-1, NONE), -2);
        due.is("the lowest number: one bit that isn't a piece", x.laidOut(Integer.MIN_VALUE, NONE), -2);
        for (int piece : Museums.outside(NONE, 9)) {
            due.is("piece " + piece, x.laidOut(63, piece), -2);
        }
        due.is("a piece that isn't of the set", x.laidOut(63, 6), -2);
        due.is("a piece that isn't told", asked().laidOut(15, 4), -2);
        due.is("of none", new WhatWasNearly().laidOut(1, NONE), -2);
        due.is("no pieces of none", new WhatWasNearly().laidOut(0, NONE), -2);
    }

    @Says(at = "Promise 52", value = "ALIKE.")
    static void alike(Due due) {
        WhatWasNearly x = Due.ruled("event was 7;event way=0;", 8);
        due.is("itself alone", x.alike(0), 1);
        due.is("but one", x.alike(1), 127);
        due.is("half", x.alike(255), 128);
    }

    @Says(at = "Promise 52", value = "NONE for others.")
    static void alikeOthers(Due due) {
        others(due, 0, NONE, new WhatWasNearly()::alike);
        others(due, 7, NONE, asked()::alike);
        others(due, 255, NONE, Museums.full()::alike);
    }

    @Says(at = "Promise 55", value = "0 CHOICES, 1 PIECES, 2 ROOMS, 3 PEOPLE, 4 X, 5 TEXTS, 6 THE TEXT (NONE), 7 STEPS that "
        + "can be taken back, 8 FACTS, 9 EVENTS of THE TEXT, 10 bytes of the tape.")
    static void about(Due due) {
        int[] bare = {0, 0, 0, 0, 89, 0, NONE, 0, 0, 0, 0};
        int[] some = {3, 3, 2, 3, NONE, 2, 0, 6, 1, 3, 8};
        int[] full = {8, 10, 6, 8, 89, 4, 3, 30, 8, 2, 300};
        int x = 12 * 2 + 89;
        for (int i = 0; i < 5; i++) {
            x = (x * 307 + 193) % 30319;
        }
        some[4] = x;
        for (int what = 0; what <= 10; what++) {
            due.is("bare " + what, Museums.bare().about(what), bare[what]);
            due.is("some " + what, Museums.some().about(what), some[what]);
            due.is("full " + what, Museums.full().about(what), full[what]);
        }
        WhatWasNearly ten = Due.ruled("event 1=1;".repeat(10), 0);
        due.is("ten events", ten.about(9), 10);
        ten.by(NONE);
        due.is("of no text none", ten.about(9), 0);
    }

    @Says(at = "Promise 55", value = "-2 for others.")
    static void aboutOthers(Due due) {
        others(due, 10, -2, new WhatWasNearly()::about);
        others(due, 10, -2, Museums.full()::about);
    }
}
