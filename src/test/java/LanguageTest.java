/** Part II of the document: tokens, clauses, faults, and what laws mean. */
public final class LanguageTest {
    private static final Due due = new Due();

    public static void main(String[] args) {
        tokens();
        cannotStand();
        numbers();
        tooDeep();
        twiceAndTooMany();
        cameAhead();
        clauses();
        counted();
        theLeastOfOne();
        joins();
        sums();
        names();
        longTexts();
        due.close();
    }

    /** A text is read on a new object: its fault, and its place. */
    private static void faulty(String text, int fault, int place) {
        WhatWasNearly x = new WhatWasNearly();
        due.is("text of <" + text + ">", Due.text(x, text), fault == 0 ? 0 : WhatWasNearly.NONE);
        due.is("fault of <" + text + ">", x.fault(0), fault);
        due.is("place of <" + text + ">", x.fault(1), place);
    }

    private static void fine(String text) {
        faulty(text, 0, WhatWasNearly.NONE);
    }

    /** Whether a law is so of a way of 8 choices. */
    private static void means(String law, int way, boolean so) {
        WhatWasNearly x = Due.ruled("event " + law + ";", 8);
        due.is("<" + law + "> of " + way, x.follows(way), so ? 1 : 0);
    }

    private static void tokens() {
        fine("");
        fine(" \n \n");
        fine("turn0;turn1;");
        fine("event1<=2and3>=2or was0;");
        fine("event\n1\n=\n1\n;");
        fine("room255for9;set5to255;put9in5;take9;choice1odds10;");
        faulty("event 1 < = 2;", 1, 10);
        faulty("event 1 =< 2;", 1, 9);
        faulty("event 1 <> 2;", 1, 9);
        faulty("event 1 <== 2;", 1, 10);
        faulty("event 1 \t= 2;", 1, 8);
        faulty("turn 0\r;", 1, 6);
        faulty("turn 0; \0", 1, 8);
        faulty("turn 0;" + (char) 255, 1, 7);
        faulty("turn 0;" + (char) 160, 1, 7);
        faulty("eventway = 1;", 1, 0);
        faulty("event wa y = 1;", 1, 6);
        faulty("Event 1=1;", 1, 0);
        faulty("event WAY=1;", 1, 6);
        faulty("event way_=1;", 1, 9);
        // all letters belong to the word they stand at, the first and the last ones too
        for (char letter : new char[] {'a', 'z', 'A', 'Z'}) {
            faulty("event way" + letter + "=1;", 1, 6);
        }
        for (char sign : new char[] {'`', '{', '@', '['}) {
            faulty("event way" + sign + "=1;", 1, 9);
        }
        faulty("turn 0/;", 1, 6);
        faulty("turn 0:;", 1, 6);
        faulty("event @=1;", 1, 6);
        faulty("turn 0:", 1, 6);
    }

    private static void cannotStand() {
        faulty(";", 1, 0);
        faulty("turn 0;;", 1, 7);
        faulty("turn", 1, 4);
        faulty("turn ", 1, 5);
        faulty("turn ;", 1, 5);
        faulty("turn 0 1;", 1, 7);
        faulty("turn -1;", 1, 5);
        faulty("turn (1);", 1, 5);
        faulty("turn way;", 1, 5);
        faulty("choice 1, 2;", 1, 8);
        faulty("choice odds 1;", 1, 7);
        faulty("choice 1 odds;", 1, 13);
        faulty("room 1 to 1;", 1, 7);
        faulty("room 1 for 1 1;", 1, 13);
        faulty("set 1 in 1;", 1, 6);
        faulty("put 1 to 1;", 1, 6);
        faulty("take 1 in 1;", 1, 7);
        faulty("event;", 1, 5);
        faulty("event", 1, 5);
        faulty("event 1", 1, 7);
        faulty("event 1=1", 1, 9);
        faulty("event 1=1 may 1=1;", 1, 10);
        faulty("event 1=1=1;", 1, 9);
        faulty("event (1=1);", 1, 8);
        faulty("event (was 0);", 1, 7);
        faulty("event was 0 = 1;", 1, 12);
        faulty("event was way;", 1, 10);
        faulty("event came way;", 1, 11);
        faulty("event was;", 1, 9);
        faulty("event not;", 1, 9);
        faulty("event and 1=1;", 1, 6);
        faulty("event was 0 or;", 1, 14);
        faulty("event was 0 so;", 1, 14);
        faulty("event was 0 was 1;", 1, 12);
        faulty("event 1+=1;", 1, 8);
        faulty("event +1=1;", 1, 6);
        faulty("event 1+*1=1;", 1, 8);
        faulty("event 1--1=1+;", 1, 13);
        faulty("event ()=1;", 1, 7);
        faulty("event (1=1;", 1, 8);
        faulty("event (1;", 1, 8);
        faulty("event 1)=1;", 1, 7);
        faulty("event 1=1);", 1, 9);
        faulty("event 1=1,1=1;", 1, 9);
        faulty("event count=1;", 1, 11);
        faulty("event count()=1;", 1, 12);
        faulty("event count(1)=1;", 1, 13);
        faulty("event count(1=1;", 1, 15);
        faulty("event count(1=1,)=1;", 1, 16);
        faulty("event count(1=1 so 1=1)=1;", 1, 16);
        faulty("event count(1=1);", 1, 16);
        faulty("event not 1;", 1, 11);
        faulty("event 1 = not was 0;", 1, 10);
        faulty("event - not was 0 = 1;", 1, 8);
        faulty("odds 1;", 1, 0);
        faulty("so;", 1, 0);
        faulty("1;", 1, 0);
    }

    private static void numbers() {
        fine("event 9999=9999;");
        fine("event 0000000000000000000001=1;");
        faulty("event 10000=1;", 2, 6);
        faulty("event 1=99999999999999999999;", 2, 8);
        faulty("event 1=4294967296;", 2, 8);
        fine("choice 0 odds 0;choice 1 odds 10;");
        faulty("choice 2 odds 0;", 2, 7);
        faulty("choice 0 odds 11;", 2, 14);
        fine("room 0 for 1;room 255 for 9;");
        faulty("room 256 for 1;", 2, 5);
        faulty("room 0 for 0;", 2, 11);
        faulty("room 0 for 10;", 2, 11);
        fine("turn 0;turn 7;");
        faulty("turn 8;", 2, 5);
        fine("set 0 to 0;set 5 to 255;");
        faulty("set 6 to 0;", 2, 4);
        faulty("set 0 to 256;", 2, 9);
        fine("put 0 in 0;put 9 in 5;");
        faulty("put 10 in 0;", 2, 4);
        faulty("put 0 in 6;", 2, 9);
        fine("take 0;take 9;");
        faulty("take 10;", 2, 5);
        fine("event was 0;event was 7;");
        faulty("event was 8;", 2, 10);
        faulty("event came 10;", 2, 11);
        faulty("turn 10000;", 2, 5);
    }

    private static void tooDeep() {
        fine("event ((((((((1))))))))=1;");
        faulty("event (((((((((1)))))))))=1;", 3, 14);
        fine("event --------1=1;");
        faulty("event ---------1=1;", 3, 14);
        fine("event not not not not not not not not was 0;");
        faulty("event not not not not not not not not not was 0;", 3, 38);
        fine("event count(count(count(count(count(count(count(count(1=1)=1)=1)=1)=1)=1)=1)=1)=1;");
        faulty("event count(count(count(count(count(count(count(count(count(1=1", 3, 54);
        fine("event not not -(-(-(1)))=count(1=1);");
        faulty("event not count(-(not (count(not (1", 1, 18);
        faulty("event not count(not -(-(-(-(1", 3, 25);
        fine("event not count(not -(-(-1))=1)=1;");
        faulty("event not count(not -(-(--1))=1)=1;", 3, 25);
        // not around one another: side by side, or a minus between two
        fine("event 1-1-1-1-1-1-1-1-1-1-1-1=1;");
        fine("event not 1=1 and not 1=1 and not 1=1 and not 1=1 and not 1=1 and not 1=1 and not 1=1 and not 1=1 and not 1=1;");
        fine("event -1+-1+-1+-1+-1+-1+-1+-1+-1+-1=1;");
        fine("event (1)+(1)+(1)+(1)+(1)+(1)+(1)+(1)+(1)+(1)=1;");
        fine("event count(1=1)=count(1=1)+count(1=1)+count(1=1)+count(1=1)+count(1=1)+count(1=1)+count(1=1)+count(1=1);");
        // a not is open over both sums of its ask
        faulty("event not 1=((((((((1", 3, 19);
        fine("event not 1=1 and 1=((((((((1))))))));");
    }

    private static void twiceAndTooMany() {
        fine("may 1=1;");
        faulty("may 1=1;turn 0;may", 4, 15);
        fine("event 1=1;".repeat(10));
        faulty("event 1=1;".repeat(10) + "event", 4, 100);
        fine("event 1=1;".repeat(10) + "may 1=1;turn 0;");
    }

    private static void cameAhead() {
        fine("event 1=1;event came 0;event came 0 and came 1;");
        faulty("event came 0;", 5, 11);
        faulty("event 1=1;event came 1;", 5, 21);
        faulty("may came 0;event 1=1;", 5, 9);
        fine("event 1=1;may came 0;event came 0;");
        faulty("event 1=1;may came 0;event came 1;", 5, 32);
        faulty("event 1=1;may count(came 0, not came 1)=1;", 5, 37);
        fine("event 1=1;".repeat(9) + "event came 8;may came 9;");
        faulty("event 1=1;".repeat(9) + "event came 9;", 5, 101);
        // of this text: what another one told isn't told here
        WhatWasNearly x = Due.ruled("event 1=1;", 0);
        due.is("another text", Due.text(x, "event came 0;"), WhatWasNearly.NONE);
        due.is("another text's fault", x.fault(0), 5);
    }

    private static void clauses() {
        fine("turn 0;".repeat(24));
        faulty("turn 0;".repeat(24) + "turn", 6, 168);
        faulty("turn 0;".repeat(24) + " \nmay 1=1;", 6, 170);
        faulty("event 1=1;" + "turn 0;".repeat(23) + "take 0;", 6, 171);
        fine("turn 0;".repeat(24) + " \n");
    }

    private static void counted() {
        fine("event count(1=1,1=1,1=1,1=1,1=1,1=1)=6;");
        faulty("event count(1=1,1=1,1=1,1=1,1=1,1=1,", 7, 35);
        faulty("event count(1=1,1=1,1=1,1=1,1=1,1=1,1=1)=6;", 7, 35);
        fine("event count(count(1=1,1=1,1=1,1=1)=4,1=1,1=1,1=1,1=1,1=1)=6;");
        fine("event count(was 0 or was 1, was 2 and was 3)=1;");
    }

    private static void theLeastOfOne() {
        faulty("turn 0;".repeat(24) + "so", 1, 168);
        faulty("turn 0;".repeat(24) + ";", 1, 168);
        faulty("may 1=1;" + "turn 0;".repeat(23) + "may", 4, 169);
        faulty("event 1=1;".repeat(10) + "turn 0;".repeat(14) + "event", 4, 198);
        faulty("10000;", 1, 0);
        faulty("event 1 10000;", 1, 8);
        faulty("event came 10;", 2, 11);
        faulty("event came 10000;", 2, 11);
        faulty("event ((((((((1(", 1, 15);
        faulty("event ((((((((not", 1, 14);
        faulty("event ((((((((-", 3, 14);
        faulty("event ((((((((count", 3, 14);
        // the first as tokens are come to
        faulty("event came 0 and was 9 @;", 5, 11);
        faulty("turn 9; turn", 2, 5);
    }

    private static void joins() {
        // A so B so C: false only if A, B are so and C isn't
        for (int way = 0; way < 8; way++) {
            means("was 0 so was 1 so was 2", way, way != 3);
            means("was 0 so was 1", way, (way & 3) != 1);
            means("was 0 or was 1 and was 2", way, (way & 1) != 0 || (way & 6) == 6);
            means("was 0 and was 1 or was 2", way, (way & 3) == 3 || (way & 4) != 0);
            means("not was 0 and was 1", way, (way & 3) == 2);
            means("not not was 1", way, (way & 2) != 0);
            means("not way = 5 or was 1 so was 0", way, !(way != 5 || (way & 2) != 0) || (way & 1) != 0);
            means("was 0 so was 1 so was 2 so was 0", way, true);
            means("count(was 0, was 1, was 2) = many", way, true);
            means("count(was 0 or was 1, was 2 and was 1, not was 0) >= 2", way,
                ((way & 3) != 0 ? 1 : 0) + ((way & 6) == 6 ? 1 : 0) + ((way & 1) == 0 ? 1 : 0) >= 2);
        }
    }

    private static void sums() {
        String[] so = {
            "2+3*4=14", "(2+3)*4=20", "10-3-2=5", "100/10/5=2", "7/2=3", "-7/2=-3", "7/-2=-3", "-7/-2=3",
            "5/0=0", "-5/0=0", "0/0+1=1", "--5=5", "-2*3=-6", "2*-3=-6", "-(2+3)=-5", "7-7/2*2=1",
            "1<2", "1<=1", "2>1", "2>=2", "1=1", "1#2", "-1<0", "not 1<1", "not 2<=1", "not 1>1", "not 1>=2", "not 1#1",
            "9999*9999=1000*1000", "9999*9999/1000=1000", "-9999*9999=-1000*1000", "-9999*9999+1=1-1000*1000",
            "9999*9999+1-1=1000*1000-1", "9999*9999-9999*9999=0", "1000*1000+5=1000*1000",
            "-1000*1000-5=-1000*1000", "1000*1000*1000*1000=1000*1000", "9999*9999*-9999=-1000*1000",
            "count(1=1)=1", "count(1=2)=0", "count(1=1,1=2,1=1,2=2,1=2,1=1)=4", "count(1=1,1=1)*count(1=1,1=1,1=1)=6",
            "1+count(count(1=1)=1,1=2)=2", "0-5=-5", "9999=9999", "01=1", "9/2*2=8", "2*9/2=9", "-9/2*2=-8",
        };
        for (String law : so) {
            means(law, 0, true);
        }
    }

    private static void names() {
        means("way = 255", 255, true);
        means("way = 254", 255, false);
        means("many = 8", 255, true);
        means("many = 0", 0, true);
        means("many = 3", 0b10010100, true);
        means("done = 0", 77, true);
        means("was 7", 128, true);
        means("was 7", 127, false);
        WhatWasNearly x = Due.ruled("event was 0; event done = 1; may done = 2; event done = 2; event came 2 and done = 3;", 1);
        due.is("done of 1", x.follows(1), 15);
        due.is("done of 0", x.follows(0), 0);
        due.is("may of 1", x.mayBe(1), 1);
        due.is("may of 0", x.mayBe(0), 0);
        // what is told behind may doesn't count in it
        WhatWasNearly y = Due.ruled("event 1=1; may done = 1; event 1=1; event done = 2;", 0);
        due.is("done ahead of may", y.mayBe(0), 1);
        due.is("done behind may", y.follows(0), 7);
        // clauses that aren't laws stand aside
        WhatWasNearly z = Due.ruled("turn 0; event 1=1; choice 0 odds 5; event came 0; take 0; event not came 1; event came 1;", 0);
        due.is("laws among deeds", z.follows(0), 11);
        due.is("events among deeds", z.about(9), 4);
        due.is("may without may", z.mayBe(0), 1);
    }

    private static void longTexts() {
        String most = "event " + "1+".repeat(145) + "1=1;";
        due.is("300 bytes", most.length(), 300);
        fine(most);
        means("1" + "+1".repeat(140) + "=141", 0, true);
        means("1=1" + " so 1=1".repeat(40), 0, true);
        means("1=1" + "so 1=1".repeat(40) + "so 1=2", 0, false);
        means("1=2" + "or 1=1".repeat(40) + "and 1=2", 0, true);
        String full = "event " + "1+".repeat(145) + "1=1 ";
        faulty(full, 1, 300);
        faulty(";".repeat(300), 1, 0);
        faulty("event " + "-".repeat(294), 3, 14);
        faulty("event " + "(".repeat(8) + "1" + ")".repeat(285), 1, 23);
    }
}
