/** Museums to begin with, and all that one shows. */
final class Museums {
    private static final int NONE = WhatWasNearly.NONE;
    static final String LAWS = "event was 0; event was 1 or was 2; event came 0 and was 2; may way # 7;";
    static final String DEEDS = "event not was 0; turn 0; take 0;";
    static final String LONGEST = "event " + "1+".repeat(145) + "1=1;";

    static WhatWasNearly bare() {
        return new WhatWasNearly();
    }

    /** Some of all: 3 choices, 3 pieces, 2 rooms, 3 people, 2 texts, a fact, 6 steps, a fault, a tape. */
    static WhatWasNearly some() {
        WhatWasNearly x = new WhatWasNearly();
        x.choice(1, 5);
        x.choice(0, 3);
        x.choice(1, 10);
        Due.text(x, LAWS);
        Due.text(x, DEEDS);
        x.by(0);
        x.piece(1, 2, 1, 0);
        x.piece(0, 0, 4, 1);
        x.piece(4, 0, 2, 0);
        x.room(5, 2);
        x.room(2, 1);
        x.person(0, NONE, NONE);
        x.person(NONE, 2, 0);
        x.person(1, NONE, 1);
        x.fact(1, false, false);
        x.put(0, 0);
        x.put(1, 1);
        x.turn(1);
        x.image();
        x.set(1, 3);
        x.turn(0);
        x.years(12, 5);
        Due.text(x, "event 1;");
        Due.feed(x, "may 1=1;");
        return x;
    }

    /** As much as there may be of all, the tape and the steps too; in the image one text less. */
    static WhatWasNearly full() {
        WhatWasNearly x = new WhatWasNearly();
        for (int i = 0; i < 8; i++) {
            x.choice(i & 1, i + 1);
            x.person(i == 3 ? 0 : NONE, i == 5 ? 1 : NONE, i - 1);
            x.fact(i, false, (i & 1) == 1);
        }
        for (int i = 0; i < 10; i++) {
            x.piece(1 << i % 8, 0, 0, 1 << i);
        }
        for (int i = 0; i < 6; i++) {
            x.room(i * 40, 1);
        }
        for (int i = 0; i < 3; i++) {
            Due.text(x, "event was " + i + "; event was " + (7 - i) + ";");
        }
        x.by(2);
        x.image();
        Due.text(x, "event was 3; event many > 3;");
        x.by(3);
        for (int i = 0; i < 6; i++) {
            x.put(i, i);
        }
        for (int i = 0; i < 26; i++) {
            x.turn(i % 8);
        }
        Due.feed(x, LONGEST);
        return x;
    }

    /**
     * All that an object shows, of its steps, its image and its tape, too. It is used up by that;
     * with the calls of full() these are fewer than 512.
     */
    static String shown(WhatWasNearly x) {
        StringBuilder all = new StringBuilder();
        all.append(x.fault(0)).append(' ').append(x.fault(1)).append('\n');
        things(x, all);
        questions(x, all);
        while (x.undo() != NONE) {
            all.append("step ").append(x.was()).append(' ').append(x.about(4)).append('\n');
        }
        standing(x, all);
        all.append("back ").append(x.back()).append('\n');
        things(x, all);
        int text = x.text();
        all.append("tape ").append(text).append(' ').append(x.fault(0)).append(' ').append(x.fault(1));
        all.append(' ').append(x.by(text)).append(' ').append(x.follows(0)).append(' ').append(x.mayBe(0));
        return all.toString();
    }

    private static void things(WhatWasNearly x, StringBuilder all) {
        for (int what = 0; what <= 10; what++) {
            all.append(x.about(what)).append(' ');
        }
        all.append(x.was()).append("\nneeds ");
        int choices = x.about(0);
        int pieces = x.about(1);
        int rooms = x.about(2);
        for (int i = 0; i < choices; i++) {
            all.append(x.ofChoice(i, 1)).append(' ');
        }
        for (int i = 0; i < pieces; i++) {
            for (int what = 0; what <= 3; what++) {
                all.append(x.ofPiece(i, what)).append(' ');
            }
        }
        for (int i = 0; i < rooms; i++) {
            all.append(x.ofRoom(i, 1)).append(' ');
        }
        standing(x, all);
    }

    private static void standing(WhatWasNearly x, StringBuilder all) {
        all.append("\nstanding ");
        int pieces = x.about(1);
        int rooms = x.about(2);
        for (int i = 0; i < pieces; i++) {
            all.append(x.ofPiece(i, 4)).append(' ');
        }
        for (int i = 0; i < rooms; i++) {
            all.append(x.ofRoom(i, 0)).append(' ');
        }
        all.append('\n');
    }

    private static void questions(WhatWasNearly x, StringBuilder all) {
        int people = x.about(3);
        int texts = x.about(5);
        for (int i = 0; i < people; i++) {
            all.append(x.elders(i)).append(' ').append(x.there(i, 0)).append(' ').append(x.thereIn(i)).append(' ');
        }
        for (int i = 1; i < texts; i++) {
            all.append(x.unlike(0, i)).append(' ');
        }
        for (int way = 0; way < 4; way++) {
            all.append(x.follows(way)).append(' ').append(x.mayBe(way)).append(' ');
        }
        all.append(x.left(NONE)).append(' ').append(x.left(0)).append(' ');
        all.append(x.sure(false)).append(' ').append(x.sure(true)).append('\n');
    }

    /** Numbers that are not from the lowest to the highest: next to them, far off, and such as wrap. */
    static int[] outside(int lowest, int highest) {
        return new int[] {lowest - 1, highest + 1, lowest - 32, highest + 32, lowest - 256, highest + 256,
            Integer.MIN_VALUE, Integer.MAX_VALUE};
    }

    private Museums() {
    }
}
