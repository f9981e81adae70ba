/** Promises 1 to 17, 28, 53, 54, sentence by sentence: the calls that tell and change. */
final class TellingEdges {
    private static final int NONE = WhatWasNearly.NONE;

    @Says(at = "Promise 1", value = "No CHOICES;")
    static void noChoices(Due due) {
        WhatWasNearly x = new WhatWasNearly();
        due.is("CHOICES", x.about(0), 0);
        due.is("WAS", x.was(), 0);
        due.is("way 0", x.mayBe(0), 1);
        due.is("way 1", x.mayBe(1), NONE);
        for (int what : new int[] {1, 2, 3, 5, 7, 8, 9, 10}) {
            due.is("about " + what, x.about(what), 0);
        }
        due.is("THE TEXT", x.about(6), NONE);
    }

    @Says(at = "Promise 1", value = "THE IMAGE is this.")
    static void theFirstImage(Due due) {
        due.refuses("back", Museums::bare, x -> x.back(), 0);
        due.refuses("changed, and back", Museums::bare, TellingEdges::changeAndGoBack, 0);
    }

    private static int changeAndGoBack(WhatWasNearly x) {
        x.choice(1, 5);
        x.piece(1, 0, 0, 0);
        x.room(1, 5);
        x.person(1, 2, NONE);
        x.put(0, 0);
        x.fact(0, true, true);
        x.years(5, 5);
        return x.back();
    }

    @Says(at = "Promise 2", value = "A CHOICE: its number.")
    static void choice(Due due) {
        WhatWasNearly x = new WhatWasNearly();
        for (int k = 0; k < 8; k++) {
            due.is("number", x.choice(k & 1, k), k);
            due.is("IS", x.ofChoice(k, 0), k & 1);
            due.is("ODDS", x.ofChoice(k, 1), k);
        }
        due.is("no step", x.about(7), 0);
    }

    @Says(at = "Promise 2", value = "NONE for others, or if there are 8.")
    static void choiceRefused(Due due) {
        for (int is : Museums.outside(0, 1)) {
            due.refuses("is " + is, Museums::bare, x -> x.choice(is, 0), NONE);
        }
        for (int odds : Museums.outside(0, 10)) {
            due.refuses("odds " + odds, Museums::bare, x -> x.choice(1, odds), NONE);
        }
        due.refuses("there are 8", Museums::full, x -> x.choice(0, 0), NONE);
        due.refuses("there are 8, that is 1", Museums::full, x -> x.choice(1, 10), NONE);
        WhatWasNearly y = Due.ruled("", 7);
        due.is("there are 7", y.choice(1, 10), 7);
    }

    @Says(at = "Promise 3", value = "A PIECE: its number.")
    static void piece(Due due) {
        WhatWasNearly x = new WhatWasNearly();
        int[][] needs = {{0, 0, 0, 0}, {255, 0, 1023, 0}, {0, 255, 0, 1023}, {170, 85, 341, 682}, {1, 2, 1, 2}};
        for (int i = 0; i < needs.length; i++) {
            due.is("number", x.piece(needs[i][0], needs[i][1], needs[i][2], needs[i][3]), i);
            for (int what = 0; what < 4; what++) {
                due.is("need " + what, x.ofPiece(i, what), needs[i][what]);
            }
        }
        due.is("no step", x.about(7), 0);
    }

    @Says(at = "Promise 3", value = "NONE for others (sets of CHOICES 0 .. 255, of EVENTS 0 .. 1023;")
    static void pieceOfOthers(Due due) {
        for (int set : Museums.outside(0, 255)) {
            due.refuses("one " + set, Museums::some, x -> x.piece(set, 0, 0, 0), NONE);
            due.refuses("nought " + set, Museums::some, x -> x.piece(0, set, 0, 0), NONE);
        }
        for (int set : Museums.outside(0, 1023)) {
            due.refuses("comes " + set, Museums::some, x -> x.piece(0, 0, set, 0), NONE);
            due.refuses("not " + set, Museums::some, x -> x.piece(0, 0, 0, set), NONE);
        }
    }

    @Says(at = "Promise 3", value = "one in both of two),")
    static void pieceInBoth(Due due) {
        for (int k = 0; k < 8; k++) {
            int bit = 1 << k;
            due.refuses("choice " + k, Museums::some, x -> x.piece(bit, bit, 0, 0), NONE);
            due.refuses("choice " + k + " of all", Museums::some, x -> x.piece(255, bit, 0, 0), NONE);
        }
        for (int e = 0; e < 10; e++) {
            int bit = 1 << e;
            due.refuses("event " + e, Museums::some, x -> x.piece(0, 0, bit, bit), NONE);
            due.refuses("event " + e + " of all", Museums::some, x -> x.piece(0, 0, bit, 1023), NONE);
        }
        WhatWasNearly y = new WhatWasNearly();
        due.is("a choice and an event of one number", y.piece(5, 10, 5, 10), 0);
        due.is("the other way round", y.piece(5, 10, 10, 5), 1);
    }

    @Says(at = "Promise 3", value = "or if there are 10.")
    static void pieceTheEleventh(Due due) {
        WhatWasNearly x = new WhatWasNearly();
        for (int i = 0; i < 10; i++) {
            due.is("there are " + i, x.piece(0, 0, 0, 0), i);
        }
        due.is("there are 10", x.piece(0, 0, 0, 0), NONE);
        due.refuses("there are 10", Museums::full, y -> y.piece(1, 2, 3, 4), NONE);
    }

    @Says(at = "Promise 4", value = "A ROOM: its number.")
    static void room(Due due) {
        WhatWasNearly x = Due.ruled("", 8);
        int[] ways = {0, 255, 1, 128, 7, 7};
        int[] holds = {1, 9, 2, 8, 1, 9};
        for (int i = 0; i < 6; i++) {
            due.is("number", x.room(ways[i], holds[i]), i);
            due.is("its way", x.ofRoom(i, 0), ways[i]);
            due.is("for how many", x.ofRoom(i, 1), holds[i]);
            due.is("nothing in it", x.ofRoom(i, 2), 0);
        }
        due.is("no step", x.about(7), 0);
    }

    @Says(at = "Promise 4", value = "NONE for others (not a WAY), or if there are 6.")
    static void roomRefused(Due due) {
        for (int way : Museums.outside(0, 7)) {
            due.refuses("way " + way, Museums::some, x -> x.room(way, 1), NONE);
        }
        for (int way : Museums.outside(0, 0)) {
            due.refuses("way " + way + " without choices", Museums::bare, x -> x.room(way, 1), NONE);
        }
        for (int many : Museums.outside(1, 9)) {
            due.refuses("for " + many, Museums::some, x -> x.room(0, many), NONE);
        }
        WhatWasNearly y = Due.ruled("", 8);
        due.is("way 256", y.room(256, 1), NONE);
        due.is("way 255", y.room(255, 1), 0);
        due.refuses("there are 6", Museums::full, x -> x.room(0, 1), NONE);
    }

    @Says(at = "Promise 5", value = "A PERSON: the number.")
    static void person(Due due) {
        WhatWasNearly x = new WhatWasNearly();
        due.is("of none", x.person(NONE, NONE, NONE), 0);
        due.is("of the lowest", x.person(0, 0, 0), 1);
        due.is("of the highest", x.person(9, 9, 1), 2);
        for (int i = 3; i < 8; i++) {
            due.is("number", x.person(NONE, 9, 0), i);
        }
        due.is("no step", x.about(7), 0);
    }

    @Says(at = "Promise 5", value = "NONE for others, or if there are 8.")
    static void personRefused(Due due) {
        for (int event : Museums.outside(NONE, 9)) {
            due.refuses("by " + event, Museums::bare, x -> x.person(event, NONE, NONE), NONE);
            due.refuses("not " + event, Museums::bare, x -> x.person(NONE, event, NONE), NONE);
        }
        for (int parent : Museums.outside(NONE, NONE)) {
            due.refuses("parent " + parent, Museums::bare, x -> x.person(NONE, NONE, parent), NONE);
        }
        due.refuses("there are 8", Museums::full, x -> x.person(NONE, NONE, NONE), NONE);
        due.refuses("there are 8, parent 7", Museums::full, x -> x.person(NONE, NONE, 7), NONE);
    }

    @Says(at = "Promise 6", value = "Twenty bytes come behind the tape, the highest of a first: how many it has.")
    static void feed(Due due) {
        WhatWasNearly x = new WhatWasNearly();
        for (int i = 1; i <= 15; i++) {
            due.is("feed " + i, x.feed(-1, Integer.MIN_VALUE, 0, 1, Integer.MAX_VALUE), i * 20);
            due.is("the tape", x.about(10), i * 20);
        }
        // twenty bytes, each in its place: "turn 0;take 1;" and six blanks
        String text = "turn 0;take 1;\n \n \n ";
        int[] places = {0, 0, 0, 0, 4, 5, 6, 7, 7, 7, 7, 11, 12, 13, 14, 15, 16, 17, 18, 19};
        for (int i = 0; i < 20; i++) {
            WhatWasNearly y = new WhatWasNearly();
            String broken = text.substring(0, i) + (char) 200 + text.substring(i + 1);
            y.feed(Due.four(broken, 0), Due.four(broken, 4), Due.four(broken, 8), Due.four(broken, 12), Due.four(broken, 16));
            due.is("a byte that is none", y.text(), NONE);
            due.is("its fault", y.fault(0), 1);
            due.is("its place, or that of the word that it breaks", y.fault(1), places[i]);
        }
        WhatWasNearly z = new WhatWasNearly();
        z.feed(Due.four(text, 0), Due.four(text, 4), Due.four(text, 8), Due.four(text, 12), Due.four(text, 16));
        z.feed(Due.four(text, 0), Due.four(text, 4), Due.four(text, 8), Due.four(text, 12), Due.four(text, 16));
        due.is("two, one behind the other", z.text(), 0);
    }

    @Says(at = "Promise 6", value = "NONE, and none come, if there would be more than 300.")
    static void feedRefused(Due due) {
        due.refuses("of 300", Museums::full, x -> x.feed(0, 0, 0, 0, 0), NONE);
        for (int had : new int[] {281, 282, 299, 300}) {
            due.refuses("of " + had, () -> fed(had), x -> x.feed(0, 0, 0, 0, 0), NONE);
        }
        for (int had : new int[] {0, 1, 279, 280}) {
            due.is("of " + had, fed(had).feed(0, 0, 0, 0, 0), had + 20);
        }
    }

    private static WhatWasNearly fed(int bytes) {
        WhatWasNearly x = new WhatWasNearly();
        Due.feed(x, Museums.LONGEST);
        x.end(bytes);
        return x;
    }

    @Says(at = "Promise 7", value = "The tape has its first n bytes alone: n.")
    static void end(Due due) {
        for (int n : new int[] {0, 1, 299, 300}) {
            WhatWasNearly x = fed(300);
            due.is("end " + n, x.end(n), n);
            due.is("the tape", x.about(10), n);
        }
        due.is("of nothing", new WhatWasNearly().end(0), 0);
        WhatWasNearly y = new WhatWasNearly();
        Due.feed(y, "turn 0;turn 9;");
        y.end(7);
        due.is("its first 7 alone", y.text(), 0);
        Due.feed(y, "turn 0;turn 9;");
        y.end(7);
        y.feed(Due.four("take", 0), Due.four(" 1; ", 0), Due.four("    ", 0), Due.four("    ", 0), Due.four("    ", 0));
        due.is("what is fed comes behind these", y.text(), 1);
    }

    @Says(at = "Promise 7", value = "NONE, and nothing is done, if it has not so many, or n is below 0.")
    static void endRefused(Due due) {
        for (int n : Museums.outside(0, 8)) {
            due.refuses("end " + n + " of 8", Museums::some, x -> x.end(n), NONE);
        }
        for (int n : Museums.outside(0, 300)) {
            due.refuses("end " + n + " of 300", Museums::full, x -> x.end(n), NONE);
        }
        due.refuses("end 1 of nothing", Museums::bare, x -> x.end(1), NONE);
        due.refuses("end -1 of nothing", Museums::bare, x -> x.end(-1), NONE);
    }

    @Says(at = "Promise 8", value = "The tape (empty then) is a TEXT: its number.")
    static void text(Due due) {
        WhatWasNearly x = new WhatWasNearly();
        due.is("an empty tape", x.text(), 0);
        for (int i = 1; i <= 3; i++) {
            due.is("number", Due.text(x, "event 1=1;"), i);
            due.is("the tape is empty", x.about(10), 0);
            due.is("TEXTS", x.about(5), i + 1);
        }
        due.is("no step", x.about(7), 0);
        due.is("it doesn't rule by that", x.about(6), NONE);
    }

    @Says(at = "Promise 8", value = "NONE: it has a FAULT;")
    static void textWithAFault(Due due) {
        WhatWasNearly x = new WhatWasNearly();
        Due.text(x, "event 1=1;");
        x.by(0);
        for (String text : new String[] {"event", "turn 8;", "may 1=1;may", "event came 0;", "event 1=1;@"}) {
            due.is("text of " + text, Due.text(x, text), NONE);
            due.is("no text more", x.about(5), 1);
            due.is("the tape is empty then", x.about(10), 0);
            due.is("who rules, rules", x.follows(0), 1);
        }
        due.is("a text without one gets the number", Due.text(x, "event 1=2;"), 1);
        due.is("nothing is left of what had a fault", x.differ(0, 1, 0), 0);
        due.is("its events", x.by(1) ? x.about(9) : NONE, 1);
        due.is("a may with a fault behind it", Due.text(x, "may 1=1;@"), NONE);
        due.is("isn't the first may", Due.text(x, "may 1=1;"), 2);
        due.is("a long one with a fault at its end", Due.text(x, Museums.LONGEST.substring(0, 299)), NONE);
        due.is("leaves room for another", Due.text(x, "event " + "1+".repeat(143) + "1=144;"), 3);
        due.is("which is so", x.by(3) ? x.follows(0) : NONE, 1);
    }

    @Says(at = "Promise 8", value = "or (the tape stays) there are 4.")
    static void textTheFifth(Due due) {
        due.refuses("there are 4", Museums::full, x -> x.text(), NONE);
        due.refuses("there are 4, one with a fault", () -> withFault(Museums.full()), x -> x.text(), NONE);
        due.refuses("there are 4, an empty tape", () -> emptied(Museums.full()), x -> x.text(), NONE);
        WhatWasNearly y = Museums.full();
        y.text();
        due.is("the tape stays", y.about(10), 300);
        y.back();
        due.is("as the image has 3, it is the fourth", y.text(), 3);
    }

    private static WhatWasNearly withFault(WhatWasNearly x) {
        Due.feed(x, "event");
        return x;
    }

    private static WhatWasNearly emptied(WhatWasNearly x) {
        x.end(0);
        return x;
    }

    @Says(at = "Promise 9", value = "Of the latest text that was read: 0 its FAULT (0 without), 1 its place (NONE without).")
    static void fault(Due due) {
        WhatWasNearly x = new WhatWasNearly();
        faultIs(due, x, "@", 1, 0);
        faultIs(due, x, "turn 0;turn 8;", 2, 12);
        faultIs(due, x, "turn 0;", 0, NONE);
        faultIs(due, x, "event ---------1=1;", 3, 14);
        faultIs(due, x, "may 1=1;may", 4, 8);
        faultIs(due, x, "", 0, NONE);
        faultIs(due, x, "event came 0;", 5, 11);
        faultIs(due, x, "turn 0;".repeat(25), 6, 168);
        faultIs(due, x, "event count(1=1" + ",1=1".repeat(6) + ")=7;", 7, 35);
        faultIs(due, x, "turn 0;", 0, NONE);
        faultIs(due, x, "event" + " ".repeat(295), 1, 300);
        faultIs(due, x, "turn 0;", 0, NONE);
        due.is("four texts", x.about(5), 4);
        due.is("a fifth isn't read", Due.text(x, "@"), NONE);
        due.is("the latest that was read had none", x.fault(0), 0);
        x.end(0);
        x.back();
        due.is("nor has it behind an image", x.fault(0), 0);
    }

    private static void faultIs(Due due, WhatWasNearly x, String text, int fault, int place) {
        Due.text(x, text);
        due.is("fault of " + text, x.fault(0), fault);
        due.is("place of " + text, x.fault(1), place);
    }

    @Says(at = "Promise 9", value = "NONE for others, and ahead of any.")
    static void faultOfOthers(Due due) {
        WhatWasNearly x = new WhatWasNearly();
        due.is("ahead of any", x.fault(0), NONE);
        due.is("ahead of any, place", x.fault(1), NONE);
        Due.feed(x, "turn 8;");
        due.is("fed, but not read", x.fault(0), NONE);
        x.text();
        due.is("read", x.fault(0), 2);
        for (int what : Museums.outside(0, 1)) {
            due.is("fault " + what, x.fault(what), NONE);
            due.is("fault " + what + " ahead of any", new WhatWasNearly().fault(what), NONE);
        }
    }

    @Says(at = "Promise 10", value = "THE TEXT (NONE: none): true.")
    static void by(Due due) {
        WhatWasNearly x = new WhatWasNearly();
        due.is("NONE of none", x.by(NONE), true);
        for (int i = 0; i < 4; i++) {
            Due.text(x, "event 1=1;".repeat(i));
        }
        for (int i = 0; i < 4; i++) {
            due.is("by " + i, x.by(i), true);
            due.is("THE TEXT", x.about(6), i);
            due.is("its events", x.about(9), i);
            due.is("by the same", x.by(i), true);
        }
        due.is("NONE", x.by(NONE), true);
        due.is("none", x.about(6), NONE);
        due.is("no events", x.about(9), 0);
        due.is("no step", x.about(7), 0);
    }

    @Says(at = "Promise 10", value = "False for others.")
    static void byOthers(Due due) {
        due.refuses("0 of none", Museums::bare, x -> x.by(0) ? 1 : 0, 0);
        for (int text : Museums.outside(NONE, 1)) {
            due.refuses("by " + text + " of 2", Museums::some, x -> x.by(text) ? 1 : 0, 0);
        }
        for (int text : Museums.outside(NONE, 3)) {
            due.refuses("by " + text + " of 4", Museums::full, x -> x.by(text) ? 1 : 0, 0);
        }
    }

    @Says(at = "Promise 11", value = "TURNED: WAS.")
    static void turn(Due due) {
        WhatWasNearly x = Due.ruled("", 8);
        for (int k = 0; k < 8; k++) {
            due.is("turn " + k, x.turn(k), (2 << k) - 1);
            due.is("steps", x.about(7), k + 1);
        }
        for (int k = 0; k < 8; k++) {
            due.is("turn back " + k, x.turn(k), 255 - (2 << k) + 1);
        }
    }

    @Says(at = "Promise 11", value = "NONE for others.")
    static void turnOthers(Due due) {
        due.refuses("0 of none", Museums::bare, x -> x.turn(0), NONE);
        for (int k : Museums.outside(0, 2)) {
            due.refuses("turn " + k + " of 3", Museums::some, x -> x.turn(k), NONE);
        }
        for (int k : Museums.outside(0, 7)) {
            due.refuses("turn " + k + " of 8", Museums::full, x -> x.turn(k), NONE);
        }
    }

    @Says(at = "Promise 12", value = "SET: true.")
    static void set(Due due) {
        WhatWasNearly x = Due.ruled("", 8);
        for (int i = 0; i < 6; i++) {
            x.room(0, 1);
            due.is("set " + i, x.set(i, 255), true);
            due.is("its way", x.ofRoom(i, 0), 255);
            due.is("steps", x.about(7), i + 1);
        }
        due.is("to 0", x.set(5, 0), true);
        due.is("its way", x.ofRoom(5, 0), 0);
        due.is("another's", x.ofRoom(4, 0), 255);
    }

    @Says(at = "Promise 12", value = "False for others, and if it is so.")
    static void setRefused(Due due) {
        due.refuses("0 of none", Museums::bare, x -> x.set(0, 0) ? 1 : 0, 0);
        for (int room : Museums.outside(0, 1)) {
            due.refuses("room " + room, Museums::some, x -> x.set(room, 0) ? 1 : 0, 0);
        }
        for (int way : Museums.outside(0, 7)) {
            due.refuses("way " + way, Museums::some, x -> x.set(0, way) ? 1 : 0, 0);
        }
        for (int way : Museums.outside(0, 255)) {
            due.refuses("way " + way + " of 256", Museums::full, x -> x.set(0, way) ? 1 : 0, 0);
        }
        for (int room = 0; room < 6; room++) {
            int same = room;
            due.refuses("it is so " + room, Museums::full, x -> x.set(same, x.ofRoom(same, 0)) ? 1 : 0, 0);
        }
    }

    @Says(at = "Promise 13", value = "PUT: true.")
    static void put(Due due) {
        WhatWasNearly x = new WhatWasNearly();
        for (int i = 0; i < 10; i++) {
            x.piece(0, 0, 0, 0);
        }
        for (int i = 0; i < 6; i++) {
            x.room(0, 9);
        }
        for (int i = 0; i < 10; i++) {
            due.is("put " + i, x.put(i, i % 6), true);
            due.is("its room", x.ofPiece(i, 4), i % 6);
            due.is("steps", x.about(7), i + 1);
        }
        due.is("into another", x.put(9, 5), true);
        due.is("its room", x.ofPiece(9, 4), 5);
        // whether it agrees there is asked by cannot alone
        WhatWasNearly y = Due.ruled("", 1);
        y.piece(1, 0, 0, 0);
        y.room(0, 1);
        due.is("where it doesn't agree", y.put(0, 0), true);
    }

    @Says(at = "Promise 13", value = "False, if it is there, if it has no room, and for others.")
    static void putRefused(Due due) {
        due.refuses("0 in 0 of none", Museums::bare, x -> x.put(0, 0) ? 1 : 0, 0);
        due.refuses("it is there", () -> placed(2), x -> x.put(0, 0) ? 1 : 0, 0);
        due.refuses("it is there, and that is full", () -> placed(1), x -> x.put(0, 0) ? 1 : 0, 0);
        due.refuses("no room", () -> placed(1), x -> x.put(1, 0) ? 1 : 0, 0);
        due.refuses("no room, out of another", () -> placed(1), x -> x.put(2, 0) ? 1 : 0, 0);
        due.is("room for two", placed(2).put(1, 0), true);
        for (int piece : Museums.outside(0, 2)) {
            due.refuses("piece " + piece, () -> placed(9), x -> x.put(piece, 0) ? 1 : 0, 0);
        }
        for (int room : Museums.outside(0, 1)) {
            due.refuses("room " + room, () -> placed(9), x -> x.put(1, room) ? 1 : 0, 0);
        }
        for (int room : Museums.outside(0, 5)) {
            due.refuses("room " + room + " of 6", Museums::full, x -> x.put(9, room) ? 1 : 0, 0);
        }
        for (int piece : Museums.outside(0, 9)) {
            due.refuses("piece " + piece + " of 10", Museums::full, x -> x.put(piece, 0) ? 1 : 0, 0);
        }
    }

    /** Three pieces: one in room 0, which is for so many, one in none, one in room 1. */
    private static WhatWasNearly placed(int holds) {
        WhatWasNearly x = new WhatWasNearly();
        x.room(0, holds);
        x.room(0, 9);
        for (int i = 0; i < 3; i++) {
            x.piece(0, 0, 0, 0);
        }
        x.put(0, 0);
        x.put(2, 1);
        return x;
    }

    @Says(at = "Promise 14", value = "TAKEN: the ROOM it was in.")
    static void take(Due due) {
        WhatWasNearly x = Museums.full();
        for (int i = 0; i < 6; i++) {
            due.is("take " + i, x.take(i), i);
            due.is("in none", x.ofPiece(i, 4), NONE);
        }
        WhatWasNearly y = placed(1);
        due.is("take", y.take(2), 1);
        due.is("steps", y.about(7), 3);
    }

    @Says(at = "Promise 14", value = "NONE, if it is in none, and for others.")
    static void takeRefused(Due due) {
        due.refuses("0 of none", Museums::bare, x -> x.take(0), NONE);
        due.refuses("in none", () -> placed(1), x -> x.take(1), NONE);
        due.refuses("the last, in none", Museums::full, x -> x.take(9), NONE);
        for (int piece : Museums.outside(0, 2)) {
            due.refuses("piece " + piece, () -> placed(1), x -> x.take(piece), NONE);
        }
        for (int piece : Museums.outside(0, 9)) {
            due.refuses("piece " + piece + " of 10", Museums::full, x -> x.take(piece), NONE);
        }
    }

    @Says(at = "Promise 15", value = "PLAYED by a TEXT: NONE: all is done; else the number of the CLAUSE that can't be.")
    static void played(Due due) {
        WhatWasNearly x = Due.ruled("", 1);
        due.is("the empty text", x.played(0), NONE);
        Due.text(x, "turn 0;".repeat(24));
        due.is("24 clauses", x.played(1), NONE);
        due.is("24 steps", x.about(7), 24);
        Due.text(x, "turn 1;turn 0;");
        due.is("the first can't be", x.played(2), 0);
        Due.text(x, "turn 0;".repeat(23) + "turn 1;");
        due.is("the last can't be", x.played(3), 23);
        due.is("30 steps", x.about(7), 30);
        due.is("WAS", x.was(), 1);
    }

    @Says(at = "Promise 15", value = "-2 for others.")
    static void playedOthers(Due due) {
        due.refuses("0 of none", Museums::bare, x -> x.played(0), -2);
        for (int text : Museums.outside(0, 1)) {
            due.refuses("text " + text + " of 2", Museums::some, x -> x.played(text), -2);
        }
        for (int text : Museums.outside(0, 3)) {
            due.refuses("text " + text + " of 4", Museums::full, x -> x.played(text), -2);
        }
    }

    @Says(at = "Promise 16", value = "YEARS: WAS.")
    static void years(Due due) {
        WhatWasNearly x = Due.ruled("", 3);
        due.is("one year that turns nothing", x.years(0, 1), 0);
        due.is("two, the second turns", x.years(0, 2), 1);
        due.is("the most", x.years(9999, 40), x.was());
    }

    @Says(at = "Promise 16", value = "NONE for others.")
    static void yearsOfOthers(Due due) {
        for (int seed : Museums.outside(0, 9999)) {
            due.refuses("seed " + seed, Museums::full, x -> x.years(seed, 40), NONE);
        }
        for (int n : Museums.outside(1, 40)) {
            due.refuses("n " + n, Museums::full, x -> x.years(0, n), NONE);
        }
        due.refuses("n 0", Museums::bare, x -> x.years(0, 0), NONE);
    }

    @Says(at = "Promise 17", value = "The latest STEP is taken back: how many can be yet.")
    static void undo(Due due) {
        WhatWasNearly x = Museums.full();
        for (int left = 29; left >= 0; left--) {
            due.is("undo", x.undo(), left);
            due.is("STEPS", x.about(7), left);
        }
        WhatWasNearly y = Due.ruled("", 1);
        y.turn(0);
        due.is("the only one", y.undo(), 0);
        due.is("WAS", y.was(), 0);
        y.turn(0);
        due.is("another one behind that", y.undo(), 0);
    }

    @Says(at = "Promise 17", value = "NONE: there is none.")
    static void undoOfNone(Due due) {
        due.refuses("of a bare one", Museums::bare, x -> x.undo(), NONE);
        due.refuses("of one without steps", () -> Due.ruled("turn 0;", 3), x -> x.undo(), NONE);
        WhatWasNearly y = Museums.full();
        for (int i = 0; i < 30; i++) {
            y.undo();
        }
        int was = y.was();
        due.is("the 31st", y.undo(), NONE);
        due.is("WAS", y.was(), was);
    }

    @Says(at = "Promise 28", value = "A FACT of a CHOICE (event false), of an EVENT (event true; 0 .. 9): how many there "
        + "are (k NONE: none any more).")
    static void fact(Due due) {
        WhatWasNearly x = Due.ruled("", 8);
        due.is("none any more, of none", x.fact(NONE, false, false), 0);
        due.is("choice 0", x.fact(0, false, true), 1);
        due.is("choice 7", x.fact(7, false, true), 2);
        due.is("event 0", x.fact(0, true, false), 3);
        due.is("event 9", x.fact(9, true, false), 4);
        due.is("left", x.left(NONE), 64);
        due.is("none any more", x.fact(NONE, true, true), 0);
        due.is("FACTS", x.about(8), 0);
        due.is("left again", x.left(NONE), 256);
        for (int kind = 0; kind < 4; kind++) {
            WhatWasNearly z = Due.ruled("event was 0;".repeat(10), 1);
            for (int so = 0; so < 2; so++) {
                z.fact(0, kind < 2, so == 0);
                z.fact(kind % 2 * 9, true, so == 1);
            }
            due.is("facts that can't be", z.left(NONE), 0);
            due.is("none any more of kind " + kind, z.fact(NONE, false, false), 0);
            due.is("all are left", z.left(NONE), 2);
        }
        WhatWasNearly y = Museums.full();
        due.is("none any more, of 8", y.fact(NONE, false, true), 0);
        due.is("the first again", y.fact(7, false, true), 1);
        due.is("no step", x.about(7), 0);
    }

    @Says(at = "Promise 28", value = "-2 for others (CHOICES not told), or if there are 8.")
    static void factRefused(Due due) {
        due.refuses("choice 0 of none", Museums::bare, x -> x.fact(0, false, true), -2);
        for (int k : Museums.outside(NONE, 2)) {
            due.refuses("choice " + k + " of 3", Museums::some, x -> x.fact(k, false, true), -2);
        }
        for (int k : Museums.outside(NONE, 9)) {
            due.refuses("event " + k, Museums::some, x -> x.fact(k, true, true), -2);
        }
        WhatWasNearly y = Due.ruled("", 8);
        due.is("choice 8 of 8", y.fact(8, false, true), -2);
        due.is("choice 7 of 8", y.fact(7, false, true), 1);
        due.refuses("there are 8", Museums::full, x -> x.fact(0, false, false), -2);
        due.refuses("there are 8, of an event", Museums::full, x -> x.fact(0, true, true), -2);
    }

    @Says(at = "Promise 53", value = "THE IMAGE is as all is now: WAS.")
    static void image(Due due) {
        due.is("of a bare one", new WhatWasNearly().image(), 0);
        WhatWasNearly x = Museums.full();
        due.is("WAS", x.image(), x.was());
        WhatWasNearly y = Due.ruled("", 8);
        y.turn(7);
        due.is("now", y.image(), 128);
        y.turn(0);
        due.is("the one as it was then", y.back(), 128);
        y.turn(1);
        due.is("anew", y.image(), 130);
        y.turn(1);
        due.is("the newer one", y.back(), 130);
        due.is("no step", y.about(7), 2);
    }

    @Says(at = "Promise 54", value = "BACK to THE IMAGE (it stays): WAS.")
    static void back(Due due) {
        due.is("of a bare one", new WhatWasNearly().back(), 0);
        WhatWasNearly x = Due.ruled("", 8);
        x.turn(7);
        x.image();
        for (int i = 0; i < 3; i++) {
            x.turn(i);
            x.undo();
            x.undo();
            due.is("back", x.back(), 128);
            due.is("steps", x.about(7), 1);
        }
        due.refuses("twice", () -> goneBack(Museums.some()), y -> y.back(), 7);
    }

    private static WhatWasNearly goneBack(WhatWasNearly x) {
        x.back();
        return x;
    }
}
