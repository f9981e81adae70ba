/** Each promise by ordinary inputs, by the edges that the document names, and by wrong inputs. */
public final class PromisesTest {
    private static final int NONE = WhatWasNearly.NONE;
    private static final int LOW = Integer.MIN_VALUE;
    private static final int HIGH = Integer.MAX_VALUE;
    private static final Due due = new Due();

    public static void main(String[] args) {
        newObject();
        choice();
        piece();
        room();
        person();
        feedAndEnd();
        text();
        fault();
        by();
        turnSetPutTake();
        played();
        years();
        undo();
        undoKeepsWhatWasTold();
        ofThings();
        agreesFollowsMayBe();
        cannot();
        mostAndClash();
        facts();
        askAndHalves();
        leanOnAndNoMatter();
        turnsIt();
        agreeInAndGifts();
        people();
        nextDoorAndEmpty();
        least();
        walk();
        curators();
        chances();
        nearly();
        laidOut();
        alike();
        imageAndBack();
        about();
        due.close();
    }

    private static void newObject() {
        WhatWasNearly x = new WhatWasNearly();
        due.is("1 NONE", NONE, -1);
        for (int what = 0; what <= 10; what++) {
            due.is("1 about " + what, x.about(what), what == 4 ? 89 : what == 6 ? NONE : 0);
        }
        x.choice(1, 1);
        x.room(1, 1);
        x.piece(0, 0, 0, 0);
        x.person(NONE, NONE, NONE);
        x.fact(0, false, true);
        x.years(3, 3);
        Due.text(x, "event was 0;");
        x.by(0);
        due.is("1 back to the first image", x.back(), 0);
        for (int what = 0; what <= 10; what++) {
            due.is("1 about again " + what, x.about(what), what == 4 ? 89 : what == 6 ? NONE : 0);
        }
    }

    private static void choice() {
        WhatWasNearly x = new WhatWasNearly();
        due.is("2 is 2", x.choice(2, 5), NONE);
        due.is("2 is -1", x.choice(-1, 5), NONE);
        due.is("2 odds 11", x.choice(0, 11), NONE);
        due.is("2 odds -1", x.choice(0, -1), NONE);
        due.is("2 extremes", x.choice(LOW, HIGH), NONE);
        for (int i = 0; i < 8; i++) {
            due.is("2 choice " + i, x.choice(i & 1, i == 0 ? 0 : 10), i);
        }
        due.is("2 the 9th", x.choice(0, 0), NONE);
        due.is("2 was", x.was(), 0b10101010);
        due.is("2 odds of 0", x.ofChoice(0, 1), 0);
        due.is("2 odds of 7", x.ofChoice(7, 1), 10);
    }

    private static void piece() {
        WhatWasNearly x = new WhatWasNearly();
        due.is("3 256", x.piece(256, 0, 0, 0), NONE);
        due.is("3 -1", x.piece(0, -1, 0, 0), NONE);
        due.is("3 nought 256", x.piece(0, 256, 0, 0), NONE);
        due.is("3 one -1", x.piece(-1, 0, 0, 0), NONE);
        due.is("3 comes -1", x.piece(0, 0, -1, 0), NONE);
        due.is("3 not 1024", x.piece(0, 0, 0, 1024), NONE);
        due.is("3 1024", x.piece(0, 0, 1024, 0), NONE);
        due.is("3 not -1", x.piece(0, 0, 0, -1), NONE);
        due.is("3 a choice in both", x.piece(6, 12, 0, 0), NONE);
        due.is("3 an event in both", x.piece(0, 0, 512, 513), NONE);
        due.is("3 a number in choices and events", x.piece(1, 2, 1, 2), 0);
        due.is("3 all, though no choice is told", x.piece(255, 0, 1023, 0), 1);
        due.is("3 all not", x.piece(0, 255, 0, 1023), 2);
        due.is("3 at first in none", x.ofPiece(2, 4), NONE);
        for (int i = 3; i < 10; i++) {
            due.is("3 piece " + i, x.piece(0, 0, 0, 0), i);
        }
        due.is("3 the 11th", x.piece(0, 0, 0, 0), NONE);
    }

    private static void room() {
        WhatWasNearly x = new WhatWasNearly();
        due.is("4 way 1 without choices", x.room(1, 1), NONE);
        due.is("4 way 0 without choices", x.room(0, 9), 0);
        x.choice(0, 0);
        x.choice(0, 0);
        due.is("4 way 3", x.room(3, 1), 1);
        due.is("4 way 4", x.room(4, 1), NONE);
        due.is("4 way -1", x.room(-1, 1), NONE);
        due.is("4 for 0", x.room(0, 0), NONE);
        due.is("4 for 10", x.room(0, 10), NONE);
        for (int i = 2; i < 6; i++) {
            due.is("4 room " + i, x.room(0, 1), i);
        }
        due.is("4 the 7th", x.room(0, 1), NONE);
    }

    private static void person() {
        WhatWasNearly x = new WhatWasNearly();
        due.is("5 by 10", x.person(10, NONE, NONE), NONE);
        due.is("5 by -2", x.person(-2, NONE, NONE), NONE);
        due.is("5 not 10", x.person(NONE, 10, NONE), NONE);
        due.is("5 not -2", x.person(NONE, -2, NONE), NONE);
        due.is("5 parent itself", x.person(NONE, NONE, 0), NONE);
        due.is("5 parent -2", x.person(NONE, NONE, -2), NONE);
        due.is("5 as ever", x.person(NONE, NONE, NONE), 0);
        due.is("5 an event both ways", x.person(9, 9, 0), 1);
        due.is("5 parent not told", x.person(0, 0, 2), NONE);
        for (int i = 2; i < 8; i++) {
            due.is("5 person " + i, x.person(0, 9, i - 1), i);
        }
        due.is("5 the 9th", x.person(0, 9, NONE), NONE);
    }

    private static void feedAndEnd() {
        WhatWasNearly x = new WhatWasNearly();
        due.is("7 end of nothing", x.end(0), 0);
        due.is("7 end 1 of nothing", x.end(1), NONE);
        for (int i = 1; i <= 15; i++) {
            due.is("6 feed " + i, x.feed(-1, LOW, HIGH, 0, 1), i * 20);
        }
        due.is("6 feed 16", x.feed(0, 0, 0, 0, 0), NONE);
        due.is("6 none came", x.about(10), 300);
        due.is("7 end 301", x.end(301), NONE);
        due.is("7 end -1", x.end(-1), NONE);
        due.is("7 nothing done", x.about(10), 300);
        due.is("7 end 300", x.end(300), 300);
        due.is("7 end 281", x.end(281), 281);
        due.is("6 feed at 281", x.feed(0, 0, 0, 0, 0), NONE);
        due.is("7 end 280", x.end(280), 280);
        due.is("6 feed at 280", x.feed(0, 0, 0, 0, 0), 300);
        due.is("7 end low", x.end(LOW), NONE);
        // "may", cut, then "1=1;" behind it: bytes come in their order, the highest of a first
        x.end(0);
        x.feed(Due.four("may ", 0), Due.four("xxxx", 0), 0, 0, 0);
        x.end(4);
        x.feed(Due.four("1=1;", 0), 0, 0, 0, 0);
        x.end(8);
        due.is("6 text of two feeds", x.text(), 0);
    }

    private static void text() {
        WhatWasNearly x = new WhatWasNearly();
        due.is("8 the empty text", x.text(), 0);
        due.is("8 a fault", Due.text(x, "event 1;"), NONE);
        due.is("8 the tape is empty behind a fault", x.about(10), 0);
        due.is("8 no text more", x.about(5), 1);
        due.is("8 second", Due.text(x, "event 1=1;"), 1);
        due.is("8 the tape is empty", x.about(10), 0);
        due.is("8 third", Due.text(x, " \n may 1=1 ; \n"), 2);
        due.is("8 fourth", Due.text(x, "turn 7;"), 3);
        due.is("8 fifth", Due.text(x, "event 1;"), NONE);
        due.is("8 the tape stays", x.about(10), 8);
        due.is("8 it was not read", x.fault(0), 0);
    }

    private static void fault() {
        WhatWasNearly x = new WhatWasNearly();
        due.is("9 ahead of any", x.fault(0), NONE);
        due.is("9 place ahead of any", x.fault(1), NONE);
        Due.text(x, "take 9;\nmay 1;");
        due.is("9 fault", x.fault(0), 1);
        due.is("9 place", x.fault(1), 13);
        due.is("9 others", x.fault(2), NONE);
        due.is("9 others below", x.fault(-1), NONE);
        Due.text(x, "take 9;");
        due.is("9 without", x.fault(0), 0);
        due.is("9 place without", x.fault(1), NONE);
        due.is("9 others without", x.fault(2), NONE);
    }

    private static void by() {
        WhatWasNearly x = new WhatWasNearly();
        due.is("10 none", x.by(NONE), true);
        due.is("10 not told", x.by(0), false);
        Due.text(x, "event 1=1;");
        due.is("10 below", x.by(-2), false);
        due.is("10 above", x.by(1), false);
        due.is("10 first", x.by(0), true);
        due.is("10 it rules", x.follows(0), 1);
        due.is("10 a refused one changes nothing", x.by(3), false);
        due.is("10 it rules yet", x.about(6), 0);
        due.is("10 none again", x.by(NONE), true);
        due.is("10 nothing rules", x.follows(0), 0);
        due.is("10 no step", x.about(7), 0);
    }

    private static void turnSetPutTake() {
        WhatWasNearly x = new WhatWasNearly();
        due.is("11 none told", x.turn(0), NONE);
        x.choice(1, 5);
        x.choice(0, 5);
        due.is("11 turn 0", x.turn(0), 0);
        due.is("11 turn 1", x.turn(1), 2);
        due.is("11 turn 2", x.turn(2), NONE);
        due.is("11 turn -1", x.turn(-1), NONE);
        x.room(0, 1);
        x.room(3, 2);
        due.is("12 so already", x.set(0, 0), false);
        due.is("12 set", x.set(0, 3), true);
        due.is("12 not a way", x.set(0, 4), false);
        due.is("12 below", x.set(0, -1), false);
        due.is("12 no room", x.set(2, 0), false);
        due.is("12 room below", x.set(-1, 0), false);
        x.piece(0, 0, 0, 0);
        x.piece(0, 0, 0, 0);
        x.piece(0, 0, 0, 0);
        due.is("13 put", x.put(0, 0), true);
        due.is("13 is there", x.put(0, 0), false);
        due.is("13 no room", x.put(1, 0), false);
        due.is("13 out of the one it is in", x.put(0, 1), true);
        due.is("13 it has room again", x.put(1, 0), true);
        due.is("13 a second in 1", x.put(2, 1), true);
        due.is("13 full", x.put(1, 1), false);
        due.is("13 others", x.put(3, 0), false);
        due.is("13 others room", x.put(0, 2), false);
        due.is("13 others none", x.put(0, NONE), false);
        due.is("13 others below", x.put(-1, 0), false);
        due.is("14 take", x.take(0), 1);
        due.is("14 in none", x.take(0), NONE);
        due.is("14 others", x.take(3), NONE);
        due.is("14 others below", x.take(-1), NONE);
        due.is("14 steps", x.about(7), 2 + 1 + 4 + 1);
    }

    private static void played() {
        WhatWasNearly x = new WhatWasNearly();
        due.is("15 no text", x.played(0), -2);
        Due.text(x, "choice 1 odds 3; event was 0; choice 0 odds 10; room 3 for 1; may 1=1; turn 1; set 0 to 2;");
        due.is("15 others", x.played(NONE), -2);
        due.is("15 others above", x.played(1), -2);
        due.is("15 all", x.played(0), NONE);
        due.is("15 was", x.was(), 3);
        due.is("15 odds", x.ofChoice(0, 1), 3);
        due.is("15 room", x.ofRoom(0, 0), 2);
        due.is("15 steps by hand", x.about(7), 2);
        due.is("15 it does not rule by that", x.about(6), NONE);
        x.piece(0, 0, 0, 0);
        Due.text(x, "put 0 in 0; take 0; take 0; turn 0;");
        due.is("15 take can't be", x.played(1), 2);
        due.is("15 what was done stays", x.about(7), 4);
        due.is("15 what is behind isn't done", x.was(), 3);
        Due.text(x, "event 1=1; put 9 in 0;");
        due.is("15 put can't be", x.played(2), 1);
        Due.text(x, "room 255 for 1;");
        due.is("15 room can't be", x.played(3), 0);
        x = new WhatWasNearly();
        Due.text(x, "room 0 for 1; set 0 to 0;");
        due.is("15 set can't be", x.played(0), 1);
        Due.text(x, "turn 0;");
        due.is("15 turn can't be", x.played(1), 0);
        Due.text(x, "choice 0 odds 0;choice 0 odds 0;choice 0 odds 0;choice 0 odds 0;choice 0 odds 0;");
        due.is("15 five choices", x.played(2), NONE);
        due.is("15 three more", x.played(2), 3);
        due.is("15 eight choices", x.about(0), 8);
    }

    private static void years() {
        WhatWasNearly x = new WhatWasNearly();
        due.is("16 seed -1", x.years(-1, 1), NONE);
        due.is("16 seed 10000", x.years(10000, 1), NONE);
        due.is("16 n 0", x.years(0, 0), NONE);
        due.is("16 n 41", x.years(0, 41), NONE);
        due.is("16 nothing done", x.about(4) + x.about(7), 89);
        due.is("16 of nothing", x.years(9999, 40), 0);
        due.is("16 it is a step", x.about(7), 1);
        due.is("16 X", x.about(4), drawn(9999, 40));
        // the first draw is SEED * 2 + 89: 1 or 3 mod 4; 0 and 2 come with the second one
        x.choice(0, 5);
        x.choice(0, 5);
        x.choice(0, 5);
        x.room(0, 1);
        x.room(0, 1);
        x.piece(0, 0, 0, 0);
        x.piece(0, 0, 0, 0);
        x.piece(0, 0, 0, 0);
        x.put(1, 0);
        due.is("16 seed 1", x.years(1, 1), 0);
        due.is("16 piece 91 mod 3 is taken", x.ofPiece(1, 4), NONE);
        due.is("16 seed 0", x.years(0, 1), 0);
        due.is("16 room 1 is set to 22 mod 8", x.ofRoom(1, 0), 6);
        due.is("16 seed 0 twice: choice 27516 mod 3", x.years(0, 2), 1);
        due.is("16 steps", x.about(7), 5);
        // 91: X 28130 (mod 4: 2), piece 28130 mod 3 = 2 in room 0
        due.is("16 seed 1 twice", x.years(1, 2), 1);
        due.is("16 piece 2 is put", x.ofPiece(2, 4), 0);
        x.take(2);
        x.put(0, 0);
        due.is("16 no room", x.years(1, 2), 1);
        due.is("16 piece 2 isn't put", x.ofPiece(2, 4), NONE);
    }

    private static int drawn(int seed, int n) {
        long x = seed * 2L + 89;
        for (int i = 0; i < n; i++) {
            x = (x * 307 + 193) % 30319;
        }
        return (int) x;
    }

    private static void undo() {
        WhatWasNearly x = new WhatWasNearly();
        due.is("17 none", x.undo(), NONE);
        x.choice(0, 5);
        x.room(0, 2);
        x.piece(0, 0, 0, 0);
        x.turn(0);
        x.set(0, 1);
        x.put(0, 0);
        x.take(0);
        x.years(7, 20);
        due.is("17 years", x.undo(), 4);
        due.is("17 X", x.about(4), 89);
        due.is("17 was", x.was(), 1);
        due.is("17 way", x.ofRoom(0, 0), 1);
        due.is("17 place", x.ofPiece(0, 4), NONE);
        due.is("17 take", x.undo(), 3);
        due.is("17 place again", x.ofPiece(0, 4), 0);
        due.is("17 put", x.undo(), 2);
        due.is("17 place ahead", x.ofPiece(0, 4), NONE);
        due.is("17 set", x.undo(), 1);
        due.is("17 way ahead", x.ofRoom(0, 0), 0);
        due.is("17 turn", x.undo(), 0);
        due.is("17 was ahead", x.was(), 0);
        due.is("17 no more", x.undo(), NONE);
        for (int i = 0; i < 37; i++) {
            x.turn(0);
            if (i == 6) {
                x.set(0, 1);
            }
        }
        due.is("17 the latest 30", x.about(7), 30);
        for (int i = 29; i >= 0; i--) {
            due.is("17 undo of many", x.undo(), i);
        }
        due.is("17 the 31st is gone", x.undo(), NONE);
        due.is("17 was then", x.was(), 1);
        due.is("17 way then", x.ofRoom(0, 0), 1);
    }

    private static void undoKeepsWhatWasTold() {
        WhatWasNearly x = new WhatWasNearly();
        x.choice(0, 5);
        x.piece(0, 0, 0, 0);
        x.room(0, 5);
        x.put(0, 0);
        x.turn(0);
        x.choice(1, 5);
        x.room(3, 1);
        x.piece(1, 0, 0, 0);
        x.fact(0, false, true);
        x.person(NONE, NONE, NONE);
        Due.text(x, "event 1=1;");
        x.by(0);
        x.turn(1);
        x.set(1, 0);
        x.put(1, 1);
        for (int i = 4; i >= 0; i--) {
            due.is("17 told: undo", x.undo(), i);
        }
        due.is("17 told: was", x.was(), 2);
        due.is("17 told: way", x.ofRoom(1, 0), 3);
        due.is("17 told: piece", x.ofPiece(1, 4), NONE);
        due.is("17 told: first piece", x.ofPiece(0, 4), NONE);
        due.is("17 told: facts", x.about(8), 1);
        due.is("17 told: people", x.about(3), 1);
        due.is("17 told: the text", x.about(6), 0);
    }

    private static void ofThings() {
        WhatWasNearly x = new WhatWasNearly();
        due.is("18 none", x.ofChoice(0, 0), NONE);
        due.is("19 none", x.ofPiece(0, 0), -2);
        due.is("20 none", x.ofRoom(0, 0), NONE);
        x.choice(1, 7);
        x.piece(1, 2, 4, 8);
        x.piece(0, 0, 0, 0);
        x.room(1, 3);
        x.put(1, 0);
        due.is("18 is", x.ofChoice(0, 0), 1);
        due.is("18 odds", x.ofChoice(0, 1), 7);
        due.is("18 what 2", x.ofChoice(0, 2), NONE);
        due.is("18 what -1", x.ofChoice(0, -1), NONE);
        due.is("18 choice -1", x.ofChoice(-1, 0), NONE);
        for (int what = 0; what < 4; what++) {
            due.is("19 what " + what, x.ofPiece(0, what), 1 << what);
        }
        due.is("19 in none", x.ofPiece(0, 4), NONE);
        due.is("19 in 0", x.ofPiece(1, 4), 0);
        due.is("19 what 5", x.ofPiece(0, 5), -2);
        due.is("19 what -1", x.ofPiece(0, -1), -2);
        due.is("19 piece 2", x.ofPiece(2, 0), -2);
        due.is("20 way", x.ofRoom(0, 0), 1);
        due.is("20 for", x.ofRoom(0, 1), 3);
        due.is("20 pieces", x.ofRoom(0, 2), 2);
        due.is("20 what 3", x.ofRoom(0, 3), NONE);
        due.is("20 what -1", x.ofRoom(0, -1), NONE);
        due.is("20 room 1", x.ofRoom(1, 0), NONE);
        due.is("21 was", x.was(), 1);
    }

    private static void agreesFollowsMayBe() {
        WhatWasNearly x = Due.ruled("event was 0; event not came 0 and was 1; may done = 1; event 1=1;", 2);
        int[] events = {4, 5, 6, 5};
        int[] may = {0, 1, 1, 1};
        for (int way = 0; way < 4; way++) {
            due.is("23 follows " + way, x.follows(way), events[way]);
            due.is("24 mayBe " + way, x.mayBe(way), may[way]);
        }
        due.is("23 not a way", x.follows(4), NONE);
        due.is("23 below", x.follows(-1), NONE);
        due.is("24 not a way", x.mayBe(4), NONE);
        due.is("24 below", x.mayBe(LOW), NONE);
        x.piece(1, 2, 1, 2);
        x.piece(4, 0, 0, 0);
        x.piece(0, 4, 0, 1016);
        x.piece(0, 0, 8, 0);
        for (int way = 0; way < 4; way++) {
            due.is("22 one " + way, x.agrees(0, way), way == 1 ? 1 : 0);
            due.is("22 a choice not told is never 1 " + way, x.agrees(1, way), 0);
            due.is("22 what isn't told is 0, doesn't come " + way, x.agrees(2, way), 1);
            due.is("22 an event that isn't there " + way, x.agrees(3, way), 0);
        }
        due.is("22 may doesn't matter", x.agrees(2, 0), 1);
        due.is("22 others", x.agrees(4, 0), NONE);
        due.is("22 others way", x.agrees(0, 4), NONE);
        due.is("22 below", x.agrees(-1, 0), NONE);
        due.is("22 below way", x.agrees(0, -1), NONE);
        x.choice(0, 5);
        due.is("23 a way more", x.follows(6), 6);
        due.is("22 a choice told later", x.agrees(1, 4), 1);
    }

    private static void cannot() {
        WhatWasNearly x = Due.ruled("event was 0; may was 0;", 1);
        due.is("25 none", x.cannot(), NONE);
        x.piece(0, 0, 1, 0);
        x.piece(1, 0, 0, 0);
        x.piece(0, 1, 0, 0);
        x.room(0, 9);
        due.is("25 in none", x.cannot(), NONE);
        x.put(2, 0);
        due.is("25 agrees, may aside", x.cannot(), NONE);
        x.put(1, 0);
        due.is("25 the second", x.cannot(), 1);
        x.put(0, 0);
        due.is("25 the lowest", x.cannot(), 0);
        x.set(0, 1);
        due.is("25 now the third", x.cannot(), 2);
        x.by(NONE);
        due.is("25 without the text", x.cannot(), 0);
    }

    private static void mostAndClash() {
        WhatWasNearly x = Due.ruled("event was 0 and was 1; may way < 3;", 2);
        due.is("26 no pieces: the lowest way", x.most(0, true), 0);
        due.is("26 no pieces: none agree", x.most(0, false), 0);
        due.is("26 others", x.most(1, false), NONE);
        due.is("26 others below", x.most(-1, true), NONE);
        due.is("27 none", x.clash(0), NONE);
        due.is("27 others", x.clash(1), NONE);
        due.is("27 others below", x.clash(LOW), NONE);
        x.piece(1, 0, 0, 0);
        x.piece(2, 0, 0, 0);
        x.piece(0, 3, 0, 0);
        x.piece(0, 0, 1, 0);
        x.piece(0, 0, 0, 1);
        due.is("26 count", x.most(31, false), 2);
        due.is("26 of like ones the lowest", x.most(31, true), 0);
        due.is("26 of 0", x.most(1, true), 1);
        due.is("26 of 1", x.most(2, true), 2);
        due.is("26 one that can't", x.most(8, false), 0);
        due.is("26 one that can't: the lowest way", x.most(8, true), 0);
        due.is("27 one alone", x.clash(31), 8);
        due.is("27 two of it, the lowest set", x.clash(23), 3);
        due.is("27 two of it", x.clash(22), 6);
        due.is("27 none of it", x.clash(17), NONE);
        Due.text(x, "may 1=0;");
        x.by(1);
        due.is("26 no way may be", x.most(31, true), NONE);
        due.is("26 no way may be, how many", x.most(0, false), NONE);
        due.is("27 no way may be: none are needed", x.clash(31), 0);
        x.by(NONE);
        due.is("27 without the text all may be", x.clash(3), NONE);
        WhatWasNearly y = Due.ruled("may many <= 2;", 4);
        for (int i = 0; i < 4; i++) {
            y.piece(1 << i, 0, 0, 0);
        }
        due.is("27 any three: the lowest set", y.clash(15), 7);
        due.is("27 three of it", y.clash(13), 13);
        due.is("27 two of it", y.clash(9), NONE);
    }

    private static void facts() {
        WhatWasNearly x = Due.ruled("event was 0 or was 1; event was 2; may not way = 3;", 3);
        due.is("29 all that may be", x.left(NONE), 7);
        due.is("28 choice 3", x.fact(3, false, true), -2);
        due.is("28 below", x.fact(-2, true, true), -2);
        due.is("28 event 10", x.fact(10, true, true), -2);
        due.is("30 nothing sure", x.sure(false), 0);
        due.is("30 events that aren't there", x.sure(true), 1020);
        due.is("28 event 0 comes", x.fact(0, true, true), 1);
        due.is("29 left", x.left(NONE), 5);
        int[] ways = {1, 2, 5, 6, 7};
        for (int i = 0; i < 5; i++) {
            due.is("29 left " + i, x.left(i), ways[i]);
        }
        due.is("29 none such", x.left(5), NONE);
        due.is("29 others", x.left(-2), NONE);
        due.is("28 choice 2 is 0", x.fact(2, false, false), 2);
        due.is("30 sure choices", x.sure(false), 4);
        due.is("30 sure events", x.sure(true), 1023);
        due.is("28 choice 0 is 1", x.fact(0, false, true), 3);
        due.is("30 all sure", x.sure(false), 7);
        due.is("29 one", x.left(0), 1);
        due.is("28 event 9 doesn't come", x.fact(9, true, false), 4);
        due.is("29 one yet", x.left(NONE), 1);
        due.is("28 choice 0 is 0 as well", x.fact(0, false, false), 5);
        due.is("29 none left", x.left(NONE), 0);
        due.is("29 none such at all", x.left(0), NONE);
        due.is("30 none left: all told", x.sure(false), 7);
        due.is("30 none left: all events", x.sure(true), 1023);
        due.is("31 none left", x.ask(0), 0);
        due.is("32 none left", x.halves(), NONE);
        x.fact(0, false, false);
        x.fact(0, false, false);
        due.is("28 the 8th", x.fact(0, false, false), 8);
        due.is("28 the 9th", x.fact(0, false, false), -2);
        due.is("28 the 9th in wait", x.about(8), 8);
        due.is("28 none any more", x.fact(NONE, false, true), 0);
        due.is("29 all again", x.left(NONE), 7);
        due.is("28 event 1 doesn't come", x.fact(1, true, false), 1);
        due.is("29 three", x.left(NONE), 3);
    }

    private static void askAndHalves() {
        WhatWasNearly x = Due.ruled("event (way / 2) * 2 = way; event many / 2 * 2 = many;", 3);
        due.is("31 parity of the way: choice 0", x.ask(0), 1);
        due.is("31 parity of many: all", x.ask(1), 7);
        due.is("31 no such event", x.ask(9), 0);
        due.is("31 others", x.ask(10), NONE);
        due.is("31 below", x.ask(-1), NONE);
        due.is("32 all alike near: the lowest", x.halves(), 0);
        x.fact(0, false, true);
        due.is("31 of those left", x.ask(1), 6);
        due.is("31 of those left nothing", x.ask(0), 0);
        due.is("32 one that isn't sure", x.halves(), 1);
        WhatWasNearly y = Due.ruled("event was 0 and was 1 or was 2 and was 3; may not way = 5 and way < 9;", 4);
        // left: 0 1 2 3 4 6 7 8: choice 0 in 1 3 7, choice 1 in 2 3 6 7, choice 2 in 4 6 7, choice 3 in 8
        due.is("32 four of eight", y.halves(), 1);
        y.fact(1, false, true);
        // left: 2 3 6 7
        due.is("32 two of four, the lowest", y.halves(), 0);
        due.is("31 one is enough there", y.ask(0), 1);
        y.fact(NONE, false, false);
        due.is("31 in those that may be", y.ask(0), 3);
        WhatWasNearly z = Due.ruled("event was 0; may count(was 0, was 1) # 1;", 2);
        due.is("31 of like ones the lowest set", z.ask(0), 1);
        Due.text(z, "event was 1; may count(was 0, was 1) # 1;");
        z.by(1);
        due.is("31 of like ones the lowest set again", z.ask(0), 1);
    }

    private static void leanOnAndNoMatter() {
        WhatWasNearly x = Due.ruled("event was 0; event was 1 and came 0; event 1=1; may was 0;", 3);
        due.is("33 choice 0", x.leanOn(0), 3);
        due.is("33 choice 1, may aside", x.leanOn(1), 2);
        due.is("33 choice 2", x.leanOn(2), 0);
        due.is("33 others", x.leanOn(3), NONE);
        due.is("33 below", x.leanOn(-1), NONE);
        due.is("39 event 0", x.noMatter(0), 6);
        due.is("39 event 1", x.noMatter(1), 4);
        due.is("39 event 2", x.noMatter(2), 7);
        due.is("39 no such event", x.noMatter(9), 7);
        due.is("39 others", x.noMatter(10), NONE);
        due.is("39 below", x.noMatter(-1), NONE);
    }

    private static void turnsIt() {
        WhatWasNearly x = Due.ruled("event was 0 and was 1 and was 2; event was 0; may 1=0;", 3);
        due.is("40 2 of 8", x.turnsIt(0, 0, false), 1);
        due.is("40 2 of 8, low", x.turnsIt(0, 0, true), 4);
        due.is("40 8 of 8", x.turnsIt(0, 1, false), 1);
        due.is("40 8 of 8, low", x.turnsIt(0, 1, true), 1);
        due.is("40 0 of 8", x.turnsIt(1, 1, false), 0);
        due.is("40 0 of 8, low", x.turnsIt(1, 1, true), 1);
        due.is("40 others", x.turnsIt(3, 0, true), NONE);
        due.is("40 below", x.turnsIt(-1, 0, true), NONE);
        due.is("40 event 10", x.turnsIt(0, 10, false), NONE);
        due.is("40 event -1", x.turnsIt(0, -1, false), NONE);
    }

    private static void agreeInAndGifts() {
        WhatWasNearly x = Due.ruled("event was 0; may way # 3;", 2);
        due.is("34 none told", x.agreeIn(0), NONE);
        due.is("47 none", x.gifts(), 0);
        x.piece(0, 0, 1, 0);
        x.piece(0, 0, 0, 0);
        x.piece(4, 0, 0, 0);
        x.piece(0, 0, 0, 1);
        due.is("34 one that may be", x.agreeIn(0), 1);
        due.is("34 all that may be", x.agreeIn(1), 3);
        due.is("34 none", x.agreeIn(2), 0);
        due.is("34 others", x.agreeIn(4), NONE);
        due.is("34 below", x.agreeIn(-1), NONE);
        due.is("47 of 0", x.gifts(), 10);
        x.turn(0);
        x.turn(1);
        due.is("47 of 3, may aside", x.gifts(), 3);
    }

    private static void people() {
        WhatWasNearly x = Due.ruled("event was 0; event was 1;", 2);
        x.person(0, NONE, NONE);
        x.person(NONE, 1, 0);
        x.person(NONE, NONE, 1);
        x.person(0, 0, NONE);
        x.person(9, NONE, NONE);
        x.person(NONE, 9, NONE);
        int[] people = {32, 39, 32, 33};
        for (int way = 0; way < 4; way++) {
            for (int who = 0; who < 6; who++) {
                due.is("41 " + who + " in " + way, x.there(who, way), people[way] >> who & 1);
            }
            due.is("43 " + way, x.lookedFor(way), people[way] & ~32);
        }
        due.is("41 others", x.there(6, 0), NONE);
        due.is("41 below", x.there(-1, 0), NONE);
        due.is("41 not a way", x.there(0, 4), NONE);
        due.is("43 not a way", x.lookedFor(4), NONE);
        due.is("43 below", x.lookedFor(-1), NONE);
        due.is("42 in 2", x.thereIn(0), 2);
        due.is("42 in 1", x.thereIn(2), 1);
        due.is("42 in 4", x.thereIn(5), 4);
        due.is("42 others", x.thereIn(6), NONE);
        due.is("42 below", x.thereIn(-1), NONE);
        x.fact(1, false, true);
        due.is("42 of those left", x.thereIn(0), 1);
        due.is("42 none of those left", x.thereIn(2), 0);
        x.turn(0);
        due.is("43 none who isn't in was", x.lookedFor(3), 0);
        due.is("43 in was itself", x.lookedFor(1), 0);
        due.is("35 none", x.elders(0), 0);
        due.is("35 parent", x.elders(1), 1);
        due.is("35 and that one's", x.elders(2), 3);
        due.is("35 others", x.elders(6), NONE);
        due.is("35 below", x.elders(-1), NONE);
        x.person(NONE, NONE, 2);
        due.is("35 three", x.elders(6), 7);
    }

    private static void nextDoorAndEmpty() {
        WhatWasNearly x = Due.ruled("", 3);
        due.is("36 no rooms", x.nextDoor(), 0);
        due.is("37 no rooms", x.empty(), 0);
        x.room(0, 1);
        x.room(1, 1);
        x.room(3, 1);
        x.room(3, 1);
        x.room(7, 1);
        due.is("36 twos", x.nextDoor(), 5);
        due.is("37 all", x.empty(), 31);
        x.piece(0, 0, 0, 0);
        x.put(0, 2);
        due.is("37 but one", x.empty(), 27);
        x.set(0, 3);
        due.is("36 like ones aren't", x.nextDoor(), 6);
    }

    private static void least() {
        WhatWasNearly x = Due.ruled("event count(was 0, was 1, was 2) >= 2; event was 0 and was 1 and was 2; may way # 3;", 3);
        due.is("38 it is so", x.least(0, false), 0);
        due.is("38 two, the lowest that may be", x.least(0, true), 5);
        due.is("38 three", x.least(1, true), 7);
        due.is("38 none", x.least(9, true), NONE);
        due.is("38 others", x.least(10, false), NONE);
        due.is("38 below", x.least(-1, false), NONE);
        x.turn(2);
        due.is("38 one, the lowest", x.least(0, true), 1);
        x.turn(0);
        x.turn(1);
        x.turn(2);
        due.is("38 was may not be: one is needed", x.least(0, true), 4);
        due.is("38 was may not be, otherwise", x.least(0, false), 1);
    }

    private static void walk() {
        WhatWasNearly x = Due.ruled("may way # 1 and way # 6 and way # 12;", 4);
        due.is("44 there", x.walk(5, 5, NONE), 0);
        due.is("44 no door", x.walk(5, 5, 0), -2);
        due.is("44 may not be", x.walk(1, 1, NONE), -2);
        due.is("44 from one that may not be", x.walk(1, 0, NONE), -2);
        due.is("44 to one that may not be", x.walk(0, 6, NONE), -2);
        due.is("44 not a way", x.walk(0, 16, NONE), -2);
        due.is("44 below", x.walk(-1, 0, NONE), -2);
        due.is("44 i -2", x.walk(0, 3, -2), -2);
        // 0 to 7: 0 isn't turned first (1 may not be), 1 first: 2, 3, 7
        due.is("44 doors", x.walk(0, 7, NONE), 3);
        due.is("44 first", x.walk(0, 7, 0), 1);
        due.is("44 second", x.walk(0, 7, 1), 0);
        due.is("44 third", x.walk(0, 7, 2), 2);
        due.is("44 none such", x.walk(0, 7, 3), -2);
        due.is("44 far", x.walk(0, 7, HIGH), -2);
        Due.text(x, "may way = 0 or way = 2 or way = 6 or way = 7 or way = 5 or way = 9;");
        x.by(1);
        due.is("44 round", x.walk(0, 5, NONE), 4);
        int[] doors = {1, 2, 0, 1};
        for (int i = 0; i < 4; i++) {
            due.is("44 round " + i, x.walk(0, 5, i), doors[i]);
        }
        due.is("44 none", x.walk(0, 9, NONE), -2);
        due.is("44 none, door", x.walk(0, 9, 0), -2);
    }

    private static void curators() {
        WhatWasNearly x = Due.ruled("event was 0; event was 1; may 1=0;", 2);
        Due.text(x, "event was 0; event not was 1; event was 0 and was 1;");
        Due.text(x, "");
        due.is("45 second", x.differ(0, 1, 0), 1);
        due.is("45 itself", x.differ(1, 1, 0), NONE);
        due.is("45 one that a text hasn't", x.differ(1, 2, 2), NONE);
        due.is("45 first", x.differ(1, 2, 3), 0);
        due.is("45 others", x.differ(0, 3, 0), NONE);
        due.is("45 none", x.differ(NONE, 0, 0), NONE);
        due.is("45 not a way", x.differ(0, 1, 4), NONE);
        due.is("45 below", x.differ(0, 1, -1), NONE);
        due.is("46 in all", x.unlike(0, 1), 4);
        due.is("46 in none", x.unlike(2, 2), 0);
        due.is("46 in three", x.unlike(2, 0), 3);
        due.is("46 others", x.unlike(0, 3), NONE);
        due.is("46 below", x.unlike(-1, 0), NONE);
        Due.text(x, "event 1=2; event 1=2; event was 1 and was 0;");
        due.is("45 third", x.differ(2, 3, 3), 2);
    }

    private static void chances() {
        WhatWasNearly x = new WhatWasNearly();
        due.is("49 the only way", x.chanceOf(0, false), 1);
        due.is("49 the only way, low", x.chanceOf(0, true), 1);
        x.choice(0, 3);
        x.choice(1, 10);
        x.choice(0, 6);
        Due.text(x, "event was 0; event was 0 or was 2; event 1=1; may 1=0;");
        x.by(0);
        due.is("48 upper", x.chance(0, false), 3);
        due.is("48 lower", x.chance(0, true), 10);
        due.is("48 either", x.chance(1, false), 18);
        due.is("48 either, low", x.chance(1, true), 25);
        due.is("48 always", x.chance(2, false), 1);
        due.is("48 always, low", x.chance(2, true), 1);
        due.is("48 never", x.chance(3, false), 0);
        due.is("48 never, low", x.chance(3, true), 1);
        due.is("48 others", x.chance(10, false), NONE);
        due.is("48 below", x.chance(-1, true), NONE);
        due.is("49 upper", x.chanceOf(3, false), 3);
        due.is("49 lower", x.chanceOf(3, true), 25);
        due.is("49 never", x.chanceOf(5, false), 0);
        due.is("49 never, low", x.chanceOf(5, true), 1);
        due.is("49 not a way", x.chanceOf(8, false), NONE);
        due.is("49 below", x.chanceOf(-1, true), NONE);
        WhatWasNearly y = new WhatWasNearly();
        for (int i = 0; i < 8; i++) {
            y.choice(0, 9);
        }
        due.is("49 the longest", y.chanceOf(255, false), 43046721);
        due.is("49 the longest, low", y.chanceOf(255, true), 100000000);
    }

    private static void nearly() {
        WhatWasNearly x = new WhatWasNearly();
        x.choice(0, 5);
        x.choice(0, 4);
        x.choice(0, 0);
        Due.text(x, "event many = 1; event was 2; event was 0 or was 1; may 1=0;");
        x.by(0);
        // of 1: 5 * 6 * 10, of 2: 5 * 4 * 10, of 4: 0
        due.is("50 the greatest", x.nearly(0), 1);
        due.is("50 a chance of 0 counts; the lowest", x.nearly(1), 4);
        due.is("50 none", x.nearly(9), NONE);
        due.is("50 others", x.nearly(10), NONE);
        due.is("50 below", x.nearly(-1), NONE);
        x.turn(1);
        due.is("50 to one without it", x.nearly(0), 0);
        WhatWasNearly y = Due.ruled("event way = 3 or way = 2;", 2);
        due.is("50 of like ones the lowest", y.nearly(0), 2);
    }

    private static void laidOut() {
        WhatWasNearly x = Due.ruled("event was 0; may 1=0;", 2);
        x.piece(0, 0, 0, 0);
        due.is("51 no rooms", x.laidOut(1, NONE), 0);
        due.is("51 no rooms, none", x.laidOut(1, 0), NONE);
        x.piece(0, 0, 1, 0);
        x.piece(0, 0, 0, 1);
        x.piece(0, 0, 0, 0);
        x.room(1, 1);
        x.room(0, 1);
        x.room(3, 1);
        due.is("51 empty set", x.laidOut(0, NONE), -2);
        due.is("51 not told", x.laidOut(16, NONE), -2);
        due.is("51 below", x.laidOut(-1, NONE), -2);
        due.is("51 one", x.laidOut(1, 0), 0);
        due.is("51 a piece not of the set", x.laidOut(1, 1), -2);
        due.is("51 a piece not told", x.laidOut(1, 4), -2);
        due.is("51 piece -2", x.laidOut(1, -2), -2);
        // 0 in 0, then 1 in 2; 2 only in 1; 3 is left over
        due.is("51 three of four", x.laidOut(15, NONE), 3);
        int[] rooms = {0, 2, 1, NONE};
        for (int i = 0; i < 4; i++) {
            due.is("51 room of " + i, x.laidOut(15, i), rooms[i]);
        }
        x.put(3, 0);
        due.is("51 others aside, wherever they are", x.laidOut(7, NONE), 3);
        x.set(2, 2);
        // rooms 1 (event 0), 0, 2 (without): 1 only in 0, so 0 yields to it if all can be laid
        due.is("51 all three", x.laidOut(7, NONE), 3);
        int[] yielding = {1, 0, 2};
        for (int i = 0; i < 3; i++) {
            due.is("51 yielding " + i, x.laidOut(7, i), yielding[i]);
        }
        WhatWasNearly y = Due.ruled("", 0);
        for (int i = 0; i < 7; i++) {
            y.piece(0, 0, 0, 0);
        }
        y.room(0, 4);
        due.is("51 seven pieces", y.laidOut(127, NONE), -2);
        due.is("51 six pieces", y.laidOut(126, NONE), 4);
        due.is("51 the fifth", y.laidOut(126, 5), NONE);
        due.is("51 the fourth", y.laidOut(126, 4), 0);
    }

    private static void alike() {
        WhatWasNearly x = Due.ruled("event was 0; event was 1 and was 2; may 1=0;", 3);
        due.is("52 of 0", x.alike(0), 3);
        due.is("52 of 7", x.alike(7), 1);
        due.is("52 not a way", x.alike(8), NONE);
        due.is("52 below", x.alike(-1), NONE);
        x.by(NONE);
        due.is("52 without", x.alike(5), 8);
    }

    private static void imageAndBack() {
        WhatWasNearly x = Due.ruled("event was 0;", 2);
        x.room(0, 2);
        x.piece(1, 0, 0, 0);
        x.turn(1);
        x.put(0, 0);
        x.person(0, NONE, NONE);
        x.fact(0, false, true);
        due.is("53 image", x.image(), 2);
        x.choice(1, 10);
        x.room(7, 1);
        x.piece(0, 1, 0, 0);
        x.person(NONE, NONE, 0);
        x.fact(1, false, true);
        Due.text(x, "event 1=1; event 1=1;");
        x.by(1);
        x.years(5, 40);
        for (int i = 0; i < 40; i++) {
            x.turn(i % 3);
        }
        Due.text(x, "event was 9;");
        Due.feed(x, "may");
        due.is("54 back", x.back(), 2);
        int[] about = {2, 1, 1, 1, 89, 1, 0, 2, 1, 1, 3};
        for (int what = 0; what <= 10; what++) {
            due.is("54 about " + what, x.about(what), about[what]);
        }
        due.is("54 the latest fault stays", x.fault(0), 2);
        due.is("54 its place", x.fault(1), 10);
        due.is("54 left", x.left(NONE), 2);
        due.is("54 place", x.ofPiece(0, 4), 0);
        due.is("54 a text in the same place", Due.text(x, "event not was 0;"), 1);
        due.is("54 it is another one", x.differ(0, 1, 0), 0);
        x.choice(0, 3);
        due.is("54 told anew", x.ofChoice(2, 1), 3);
        due.is("54 as told", x.was(), 2);
        x.undo();
        due.is("54 steps are as they were", x.ofPiece(0, 4), NONE);
        due.is("54 and the first", x.undo(), 0);
        due.is("54 was ahead of it", x.was(), 0);
        x.fact(NONE, true, true);
        due.is("54 the image stays", x.back(), 2);
        due.is("54 the image's facts", x.about(8), 1);
        due.is("54 the image's steps", x.about(7), 2);
        x.turn(0);
        due.is("53 anew", x.image(), 3);
        x.turn(0);
        due.is("54 to the newer one", x.back(), 3);
    }

    private static void about() {
        WhatWasNearly x = Due.ruled("event 1=1; event 1=1;", 3);
        x.piece(0, 0, 0, 0);
        x.piece(0, 0, 0, 0);
        x.room(0, 1);
        x.person(NONE, NONE, NONE);
        x.years(10, 1);
        x.turn(0);
        x.fact(0, true, true);
        Due.text(x, "");
        Due.feed(x, "four");
        int[] about = {3, 2, 1, 1, drawn(10, 1), 2, 0, 2, 1, 2, 4};
        for (int what = 0; what <= 10; what++) {
            due.is("55 about " + what, x.about(what), about[what]);
        }
        due.is("55 others", x.about(11), -2);
        due.is("55 below", x.about(-1), -2);
    }
}
