/** The sentences of part II: texts, their faults, what rules and what is played. */
final class LanguageEdges {
    private static final int NONE = WhatWasNearly.NONE;

    /** A text is read on a new object: its fault, and its place. */
    private static void faulty(Due due, String text, int fault, int place) {
        WhatWasNearly x = new WhatWasNearly();
        due.is("text of <" + text + ">", Due.text(x, text), fault == 0 ? 0 : NONE);
        due.is("fault of <" + text + ">", x.fault(0), fault);
        due.is("place of <" + text + ">", x.fault(1), place);
    }

    private static void fine(Due due, String... texts) {
        for (String text : texts) {
            faulty(due, text, 0, NONE);
        }
    }

    /** Whether a law is so of a way of 8 choices. */
    private static void means(Due due, String law, int way, boolean so) {
        WhatWasNearly x = Due.ruled("event " + law + ";", 8);
        due.is("<" + law + "> of " + way, x.follows(way), so ? 1 : 0);
    }

    private static void so(Due due, String... laws) {
        for (String law : laws) {
            means(due, law, 0, true);
        }
    }

    @Says("TEXTS 0 .. 3: of up to 300 bytes.")
    static void fourTextsOf300(Due due) {
        WhatWasNearly x = new WhatWasNearly();
        for (int i = 0; i <= 3; i++) {
            due.is("text " + i, Due.text(x, Museums.LONGEST), i);
            due.is("TEXTS behind it", x.about(5), i + 1);
        }
        due.refuses("a text 4", Museums::full, y -> y.text(), NONE);
        // the 300th byte is read, and of the 299 ahead of it nothing is due but that byte
        faulty(due, Museums.LONGEST.substring(0, 299) + " ", 1, 300);
        faulty(due, Museums.LONGEST.substring(0, 299) + ",", 1, 299);
        faulty(due, Museums.LONGEST.substring(0, 299), 1, 299);
        fine(due, " ".repeat(300), "");
        // as many tokens as bytes
        faulty(due, ";".repeat(300), 1, 0);
        faulty(due, "1(".repeat(150), 1, 0);
        faulty(due, "(1".repeat(150), 1, 0);
    }

    @Says("TOKENS, blanks (32, 10) aside:")
    static void blanks(Due due) {
        fine(due, " ", "\n", " \n turn\n0 ;\n ", "\n\n", "turn 0;");
        for (int sign = 0; sign < 256; sign++) {
            boolean blank = sign == 32 || sign == 10;
            faulty(due, (char) sign + "turn 0;", blank ? 0 : 1, blank ? NONE : 0);
        }
    }

    @Says("letters a .. z, A .. Z one behind the other (one TOKEN),")
    static void letters(Due due) {
        fine(due, "turn 0;", "turn0;", "turn\n0;");
        faulty(due, "tu rn 0;", 1, 0);
        faulty(due, "turnturn 0;", 1, 0);
        for (int sign = 33; sign < 256; sign++) {
            boolean letter = sign >= 'a' && sign <= 'z' || sign >= 'A' && sign <= 'Z';
            boolean digit = sign >= '0' && sign <= '9';
            if (!digit) {
                // at a letter the word is another one, from its first byte on; all else can't stand behind it
                faulty(due, "turn" + (char) sign + "0;", 1, letter ? 0 : 4);
            }
        }
        faulty(due, "TURN 0;", 1, 0);
        faulty(due, "Turn 0;", 1, 0);
    }

    @Says("digits likewise (NUMBERS, 0 .. 9999),")
    static void digits(Due due) {
        fine(due, "event 0=9999;", "event 00000000000000009999=1;", "event 0000=0;");
        faulty(due, "event 10000=1;", 2, 6);
        faulty(due, "event 1=10000;", 2, 8);
        faulty(due, "event 99 99=1;", 1, 9);
        so(due, "9999-9998=1", "0012=12", "10-01=9");
        for (int value : new int[] {0, 9, 10, 99, 100, 999, 1000, 9998}) {
            so(due, value + "+1=" + (value + 1));
        }
        // those that would wrap to small ones
        faulty(due, "event 4294967297=1;", 2, 6);
        faulty(due, "event 18446744073709551617=1;", 2, 6);
        faulty(due, "event 1=" + "9".repeat(200) + ";", 2, 8);
    }

    @Says("<= >= < > = # + - * / ( ) , ; (the longest).")
    static void signs(Due due) {
        fine(due, "event 1<=1;", "event 1>=1;", "event 1<1;", "event 1>1;", "event 1=1;", "event 1#1;",
            "event 1+1-1*1/1=(1);", "event count(1=1,1=1)=1;");
        faulty(due, "event 1< =1;", 1, 9);
        faulty(due, "event 1> =1;", 1, 9);
        faulty(due, "event 1<==1;", 1, 9);
        faulty(due, "event 1>==1;", 1, 9);
        faulty(due, "event 1=<1;", 1, 8);
        faulty(due, "event 1<>1;", 1, 8);
        faulty(due, "event 1==1;", 1, 8);
        for (int sign = 33; sign < 256; sign++) {
            boolean known = "<>=#+-*/".indexOf(sign) >= 0;
            boolean goesOn = sign >= '0' && sign <= '9';
            if (!known && !goesOn) {
                faulty(due, "event 1" + (char) sign + "1;", 1, 7);
            }
        }
    }

    @Says("{CLAUSE}, 24 at most:")
    static void clauses(Due due) {
        fine(due, "", "turn 0;", "turn 0;".repeat(23), "turn 0;".repeat(24), "turn 0;".repeat(24) + " \n ");
        faulty(due, "turn 0;".repeat(25), 6, 168);
        faulty(due, "turn 0;".repeat(42), 6, 168);
        fine(due, "event 1=1;".repeat(10) + "may 1=1;" + "turn 0;".repeat(13));
        faulty(due, "event 1=1;".repeat(10) + "may 1=1;" + "turn 0;".repeat(14), 6, 199);
    }

    @Says("event WHOLE ; (EVENTS 0, 1, .. one by one, 10 at most)")
    static void events(Due due) {
        for (int told = 0; told <= 10; told++) {
            WhatWasNearly x = Due.ruled("event 1=1;".repeat(told), 0);
            due.is("events of " + told, x.about(9), told);
            due.is("which come", x.follows(0), (1 << told) - 1);
        }
        faulty(due, "event 1=1;".repeat(11), 4, 100);
        WhatWasNearly y = Due.ruled("event 1=2;event 1=1;event 1=2;event 1=1;", 0);
        due.is("one by one", y.follows(0), 10);
        faulty(due, "event ;", 1, 6);
        faulty(due, "event", 1, 5);
        faulty(due, "event 1=1", 1, 9);
    }

    @Says("or may WHOLE ; (once)")
    static void mayOnce(Due due) {
        fine(due, "may 1=1;");
        faulty(due, "may 1=1;may 1=1;", 4, 8);
        faulty(due, "may 1=1;turn 0;event 1=1;may 1=1;", 4, 25);
        faulty(due, "may;", 1, 3);
        faulty(due, "may 1=1", 1, 7);
        WhatWasNearly x = Due.ruled("", 0);
        due.is("once in another text, too", Due.text(x, "may 1=1;"), 1);
        due.is("and in one more", Due.text(x, "may 1=1;"), 2);
    }

    @Says("or choice NUMBER odds NUMBER ; (IS, ODDS)")
    static void choiceClause(Due due) {
        WhatWasNearly x = new WhatWasNearly();
        Due.text(x, "choice 1 odds 0;choice 0 odds 10;");
        due.is("played", x.played(0), NONE);
        due.is("IS", x.was(), 1);
        due.is("ODDS of 0", x.ofChoice(0, 1), 0);
        due.is("ODDS of 1", x.ofChoice(1, 1), 10);
        faulty(due, "choice 1;", 1, 8);
        faulty(due, "choice 1 odds;", 1, 13);
        faulty(due, "choice 1 for 1;", 1, 9);
    }

    @Says("or room NUMBER for NUMBER ; (WAY, how many)")
    static void roomClause(Due due) {
        WhatWasNearly x = Due.ruled("room 0 for 1;room 255 for 9;", 8);
        due.is("played", x.played(0), NONE);
        due.is("WAY of 0", x.ofRoom(0, 0), 0);
        due.is("how many of 0", x.ofRoom(0, 1), 1);
        due.is("WAY of 1", x.ofRoom(1, 0), 255);
        due.is("how many of 1", x.ofRoom(1, 1), 9);
        faulty(due, "room 1;", 1, 6);
        faulty(due, "room 1 for;", 1, 10);
        faulty(due, "room 1 odds 1;", 1, 7);
    }

    @Says("or turn NUMBER ;")
    static void turnClause(Due due) {
        WhatWasNearly x = Due.ruled("turn 0;turn 7;", 8);
        due.is("played", x.played(0), NONE);
        due.is("WAS", x.was(), 129);
        faulty(due, "turn;", 1, 4);
        faulty(due, "turn 1", 1, 6);
        faulty(due, "turn 1 2;", 1, 7);
    }

    @Says("or set NUMBER to NUMBER ; (ROOM, WAY)")
    static void setClause(Due due) {
        WhatWasNearly x = Due.ruled("room 0 for 1;".repeat(6) + "set 0 to 255;set 5 to 1;", 8);
        due.is("played", x.played(0), NONE);
        due.is("WAY of 0", x.ofRoom(0, 0), 255);
        due.is("WAY of 5", x.ofRoom(5, 0), 1);
        faulty(due, "set 1;", 1, 5);
        faulty(due, "set 1 to;", 1, 8);
        faulty(due, "set 1 in 1;", 1, 6);
    }

    @Says("or put NUMBER in NUMBER ;")
    static void putClause(Due due) {
        WhatWasNearly x = Due.ruled("room 0 for 1;".repeat(6) + "put 0 in 5;put 9 in 0;", 0);
        for (int i = 0; i < 10; i++) {
            x.piece(0, 0, 0, 0);
        }
        due.is("played", x.played(0), NONE);
        due.is("ROOM of 0", x.ofPiece(0, 4), 5);
        due.is("ROOM of 9", x.ofPiece(9, 4), 0);
        faulty(due, "put 1;", 1, 5);
        faulty(due, "put 1 in;", 1, 8);
        faulty(due, "put 1 to 1;", 1, 6);
    }

    @Says("or take NUMBER ;.")
    static void takeClause(Due due) {
        WhatWasNearly x = Due.ruled("room 0 for 9;put 0 in 0;put 9 in 0;take 0;take 9;", 0);
        for (int i = 0; i < 10; i++) {
            x.piece(0, 0, 0, 0);
        }
        due.is("played", x.played(0), NONE);
        due.is("all are taken", x.ofRoom(0, 2), 0);
        due.is("steps", x.about(7), 4);
        faulty(due, "take;", 1, 4);
        faulty(due, "take 1", 1, 6);
        faulty(due, "take 1 in 1;", 1, 7);
    }

    @Says("WHOLE: EITHER {so EITHER}: A so B: B, or not A; of more from the right (A so (B so C)).")
    static void whole(Due due) {
        for (int way = 0; way < 16; way++) {
            boolean a = (way & 1) != 0;
            boolean b = (way & 2) != 0;
            boolean c = (way & 4) != 0;
            boolean d = (way & 8) != 0;
            means(due, "was 0", way, a);
            means(due, "was 0 so was 1", way, b || !a);
            means(due, "was 0 so was 1 so was 2", way, c || !b || !a);
            means(due, "was 0 so was 1 so was 2 so was 3", way, d || !c || !b || !a);
            means(due, "was 0 or was 1 so was 2 or was 3", way, c || d || !(a || b));
        }
        faulty(due, "event so 1=1;", 1, 6);
        faulty(due, "event 1=1 so;", 1, 12);
    }

    @Says("EITHER: BOTH {or BOTH}.")
    static void either(Due due) {
        for (int way = 0; way < 16; way++) {
            means(due, "was 0 or was 1", way, (way & 3) != 0);
            means(due, "was 0 or was 1 or was 2 or was 3", way, way != 0);
            means(due, "was 0 or was 1 and was 2", way, (way & 1) != 0 || (way & 6) == 6);
        }
        faulty(due, "event or 1=1;", 1, 6);
        faulty(due, "event 1=1 or;", 1, 12);
    }

    @Says("BOTH: ASK {and ASK}.")
    static void both(Due due) {
        for (int way = 0; way < 16; way++) {
            means(due, "was 0 and was 1", way, (way & 3) == 3);
            means(due, "was 0 and was 1 and was 2 and was 3", way, way == 15);
            means(due, "was 0 and was 1 or was 2", way, (way & 3) == 3 || (way & 4) != 0);
        }
        faulty(due, "event and 1=1;", 1, 6);
        faulty(due, "event 1=1 and;", 1, 13);
    }

    @Says("ASK: not ASK,")
    static void not(Due due) {
        for (int way = 0; way < 4; way++) {
            means(due, "not was 0", way, (way & 1) == 0);
            means(due, "not not was 0", way, (way & 1) == 1);
            means(due, "not was 0 and was 1", way, way == 2);
            means(due, "not way=2", way, way != 2);
        }
        faulty(due, "event not;", 1, 9);
        faulty(due, "event not (was 0);", 1, 11);
    }

    @Says("or was NUMBER (0 .. 7: that CHOICE is 1),")
    static void wasNumber(Due due) {
        for (int k = 0; k <= 7; k++) {
            means(due, "was " + k, 1 << k, true);
            means(due, "was " + k, 255 ^ 1 << k, false);
        }
        faulty(due, "event was 8;", 2, 10);
        faulty(due, "event was;", 1, 9);
        WhatWasNearly x = Due.ruled("event was 7;", 7);
        due.is("a choice not told", x.follows(127), 0);
        x.choice(1, 5);
        due.is("told since", x.follows(128), 1);
    }

    @Says("or came NUMBER (0 .. 9: that EVENT came),")
    static void cameNumber(Due due) {
        WhatWasNearly x = Due.ruled("event was 0;event not came 0;event came 1;may came 2;", 1);
        due.is("of 0", x.follows(0), 6);
        due.is("of 1", x.follows(1), 1);
        due.is("may of 0", x.mayBe(0), 1);
        due.is("may of 1", x.mayBe(1), 0);
        WhatWasNearly y = Due.ruled("event 1=1;".repeat(9) + "event was 0;may came 9;", 1);
        due.is("9 came", y.mayBe(1), 1);
        due.is("9 didn't", y.mayBe(0), 0);
        faulty(due, "event 1=1;".repeat(10) + "may came 10;", 2, 109);
        faulty(due, "event came;", 1, 10);
    }

    @Says("or SUM one of < <= > >= = # (unlike) SUM.")
    static void compared(Due due) {
        for (int way = 4; way <= 6; way++) {
            means(due, "way<5", way, way < 5);
            means(due, "way<=5", way, way <= 5);
            means(due, "way>5", way, way > 5);
            means(due, "way>=5", way, way >= 5);
            means(due, "way=5", way, way == 5);
            means(due, "way#5", way, way != 5);
        }
        faulty(due, "event 1;", 1, 7);
        faulty(due, "event 1=;", 1, 8);
        faulty(due, "event =1;", 1, 6);
        faulty(due, "event 1=1=1;", 1, 9);
    }

    @Says("SUM: PRODUCT {+ or - PRODUCT}.")
    static void sum(Due due) {
        so(due, "2+3=5", "2-3=-1", "2*3+4*5=26", "2*3-4*5=-14", "1+2+3-4=2");
        faulty(due, "event +1=1;", 1, 6);
        faulty(due, "event 1+=1;", 1, 8);
        faulty(due, "event 1=1-;", 1, 10);
    }

    @Says("PRODUCT: ONE {* or / ONE}.")
    static void product(Due due) {
        so(due, "2*3=6", "7/2=3", "2*-3=-6", "2*(1+2)=6", "12/4*3=9", "2*3*4=24");
        faulty(due, "event *1=1;", 1, 6);
        faulty(due, "event 1*=1;", 1, 8);
        faulty(due, "event 1=1/;", 1, 10);
    }

    @Says("ONE: NUMBER, NAME, ( SUM ), - ONE,")
    static void one(Due due) {
        so(due, "7=7", "way=many", "(7)=7", "-7=0-7", "--7=7", "-(2+3)=0-5", "-way=0", "-2*3=0-6");
        faulty(due, "event ()=1;", 1, 7);
        faulty(due, "event (1=1;", 1, 8);
        faulty(due, "event -=1;", 1, 7);
        faulty(due, "event name=1;", 1, 6);
    }

    @Says("count ( EITHER {, EITHER} ) (1 to 6: how many of these are so).")
    static void count(Due due) {
        StringBuilder law = new StringBuilder("count(was 0");
        for (int many = 1; many <= 6; many++) {
            means(due, law + ")=0", 0, true);
            means(due, law + ")=1", 1, true);
            means(due, law + ")=" + many, 255, true);
            law.append(",was ").append(many);
        }
        faulty(due, "event " + law + ")=1;", 7, 47);
        faulty(due, "event count()=0;", 1, 12);
        faulty(due, "event count(,was 0)=0;", 1, 12);
        faulty(due, "event count(was 0,)=0;", 1, 18);
        faulty(due, "event count was 0=0;", 1, 12);
        faulty(due, "event count(was 0 so was 1)=0;", 1, 18);
        so(due, "count(1=2 or 1=1,1=1 and 1=2)=1");
    }

    @Says("NAMES: way (0 .. 255),")
    static void nameWay(Due due) {
        means(due, "way=0", 0, true);
        means(due, "way=0", 1, false);
        means(due, "way=255", 255, true);
        means(due, "way=255", 254, false);
        WhatWasNearly x = Due.ruled("event way=0;", 0);
        due.is("without choices", x.follows(0), 1);
    }

    @Says("many (CHOICES that are 1),")
    static void nameMany(Due due) {
        means(due, "many=0", 0, true);
        means(due, "many=8", 255, true);
        means(due, "many=7", 254, true);
        means(due, "many=2", 129, true);
    }

    @Says("done (EVENTS of those told ahead that come).")
    static void nameDone(Due due) {
        StringBuilder text = new StringBuilder();
        for (int i = 0; i < 10; i++) {
            text.append("event done=").append(i).append(';');
        }
        due.is("none ahead, one, .. nine", Due.ruled(text.toString(), 0).follows(0), 1023);
        WhatWasNearly x = Due.ruled("event 1=2;event was 0;event done=1;event done=2;", 1);
        due.is("those that don't come", x.follows(0), 0);
        due.is("and that do", x.follows(1), 2 + 4 + 8);
    }

    @Says("From the left;")
    static void fromTheLeft(Due due) {
        so(due, "10-3-2=5", "10-3+2=9", "100/10/5=2", "100/10*5=50", "7/2*2=6", "2*7/2=7");
    }

    @Says("/ cuts towards 0, by 0 it is 0;")
    static void divided(Due due) {
        so(due, "7/2=3", "-7/2=-3", "7/-2=-3", "-7/-2=3", "1/2=0", "-1/2=0", "6/3=2", "-6/3=-2", "5/6=0");
        so(due, "0/0=0", "1/0=0", "-1/0=0", "1000*1000/0=0", "1/0+1=1", "1/(1-1)=0", "1/way=0");
    }

    @Says("what is above 1000000 (below the same less) is that, at each step.")
    static void cut(Due due) {
        so(due, "999*1000+999+1=1000*1000", "999*1000+999<1000*1000", "1000*1000+1=1000*1000",
            "1000*1000+1-1=999*1000+999", "1001*999=999*1000+999", "1001*999<1000*1000", "1001*1000=1000*1000",
            "1000*1000--1=1000*1000", "1000*1000+1000*1000=1000*1000");
        so(due, "-999*1000-999-1=-1000*1000", "-999*1000-999>-1000*1000", "-1000*1000-1=-1000*1000",
            "-1000*1000-1+1=-999*1000-999", "-1001*999=-999*1000-999", "-1001*999>-1000*1000", "-1001*1000=-1000*1000",
            "-1000*1000+-1=-1000*1000", "-1000*1000-1000*1000=-1000*1000");
        // what would wrap in 32 bits
        so(due, "9999*9999=1000*1000", "1000*1000*(1000*1000)=1000*1000", "1000*1000*(-1000*1000)=-1000*1000",
            "-1000*1000*(-1000*1000)=1000*1000", "1000*1000*4295=1000*1000", "-1000*1000*4295=-1000*1000",
            "9999*9999/1000=1000");
    }

    @Says("All is asked always.")
    static void allIsAsked(Due due) {
        so(due, "1=1 or 1/0=1", "1=2 so 1/0=1", "not 1=2 and 1/0=0");
        faulty(due, "event 1=1 or came 0;", 5, 18);
        faulty(due, "event 1=2 and was 8;", 2, 18);
        faulty(due, "event 1=2 so was 8;", 2, 17);
    }

    @Says("FAULTS, the first as TOKENS are come to,")
    static void firstFault(Due due) {
        faulty(due, "turn 8;turn 9;", 2, 5);
        faulty(due, "turn 8; @ ;", 2, 5);
        faulty(due, "@ turn 8;", 1, 0);
        faulty(due, "event came 0 or was 8;", 5, 11);
        faulty(due, "event was 8 or came 0;", 2, 10);
        faulty(due, "may 1=1;may ;", 4, 8);
        faulty(due, "may ;may 1=1;", 1, 4);
        faulty(due, "event (((((((((10000", 3, 14);
        faulty(due, "event 10000+(((((((((1", 2, 6);
    }

    @Says("at the TOKEN's first byte (of the end at the length),")
    static void places(Due due) {
        faulty(due, "@", 1, 0);
        faulty(due, "turn 12;", 2, 5);
        faulty(due, "  turn  \n 0012;", 2, 10);
        faulty(due, "turn turn;", 1, 5);
        faulty(due, "event 1 <= <= 2;", 1, 11);
        faulty(due, "turn", 1, 4);
        faulty(due, "turn 0", 1, 6);
        faulty(due, "turn 0  \n", 1, 9);
        faulty(due, "event 1=1" + " ".repeat(291), 1, 300);
    }

    @Says("of one the least:")
    static void theLeast(Due due) {
        // 1 and 2, 1 and 3, 1 and 6
        faulty(due, "10000", 1, 0);
        faulty(due, "event 1=1 10000;", 1, 10);
        faulty(due, "event 1=((((((((1(", 1, 17);
        faulty(due, "event ((((((((not", 1, 14);
        faulty(due, "turn 0;".repeat(24) + "odds", 1, 168);
        faulty(due, "turn 0;".repeat(24) + "7", 1, 168);
        // 2 and 5
        faulty(due, "event came 10;", 2, 11);
        faulty(due, "event came 10000;", 2, 11);
        // 4 and 6
        faulty(due, "may 1=1;" + "turn 0;".repeat(23) + "may", 4, 169);
        faulty(due, "event 1=1;".repeat(10) + "turn 0;".repeat(14) + "event", 4, 198);
    }

    @Says("1 it can't stand there, or is none.")
    static void fault1(Due due) {
        for (String word : new String[] {"odds", "for", "to", "in", "so", "or", "and", "not", "was", "came", "count",
            "way", "many", "done", "x", "1", "<=", ">=", "<", ">", "=", "#", "+", "-", "*", "/", "(", ")", ",", ";", "!"}) {
            faulty(due, word, 1, 0);
            faulty(due, "turn 0;" + word, 1, 7);
            faulty(due, "turn 0 " + word, word.equals(";") ? 0 : 1, word.equals(";") ? NONE : 7);
        }
        for (String word : new String[] {"event", "may", "choice", "room", "turn", "set", "put", "take"}) {
            faulty(due, word, 1, word.length());
            faulty(due, "event " + word, 1, 6);
            faulty(due, "turn 0 " + word, 1, 7);
        }
        for (int sign = 128; sign < 256; sign++) {
            faulty(due, "turn 0;" + (char) sign, 1, 7);
        }
    }

    @Says("2 a NUMBER that isn't one of those told (above 9999;")
    static void above9999(Due due) {
        fine(due, "event 9999=0;", "event 0=9999;");
        faulty(due, "event 10000=0;", 2, 6);
        faulty(due, "event 0=10000;", 2, 8);
        faulty(due, "event -(1+10000)=0;", 2, 10);
        faulty(due, "event count(10000=0)=0;", 2, 12);
    }

    @Says("IS 0 .. 1,")
    static void isNumbers(Due due) {
        fine(due, "choice 0 odds 5;", "choice 1 odds 5;", "choice 01 odds 5;");
        faulty(due, "choice 2 odds 5;", 2, 7);
        faulty(due, "choice -1 odds 5;", 1, 7);
        faulty(due, "choice 10000 odds 5;", 2, 7);
    }

    @Says("ODDS 0 .. 10,")
    static void oddsNumbers(Due due) {
        fine(due, "choice 0 odds 0;", "choice 0 odds 10;");
        faulty(due, "choice 0 odds 11;", 2, 14);
        faulty(due, "choice 0 odds -1;", 1, 14);
    }

    @Says("WAYS 0 .. 255,")
    static void wayNumbers(Due due) {
        fine(due, "room 0 for 1;", "room 255 for 1;", "set 0 to 0;", "set 0 to 255;");
        faulty(due, "room 256 for 1;", 2, 5);
        faulty(due, "set 0 to 256;", 2, 9);
        faulty(due, "room -1 for 1;", 1, 5);
        faulty(due, "set 0 to -1;", 1, 9);
    }

    @Says("for 1 .. 9,")
    static void forNumbers(Due due) {
        fine(due, "room 0 for 1;", "room 0 for 9;");
        faulty(due, "room 0 for 0;", 2, 11);
        faulty(due, "room 0 for 10;", 2, 11);
    }

    @Says("CHOICES 0 .. 7,")
    static void choiceNumbers(Due due) {
        fine(due, "turn 0;", "turn 7;", "event was 0;", "event was 7;");
        faulty(due, "turn 8;", 2, 5);
        faulty(due, "event was 8;", 2, 10);
    }

    @Says("EVENTS, PIECES 0 .. 9,")
    static void eventAndPieceNumbers(Due due) {
        fine(due, "put 0 in 0;", "put 9 in 0;", "take 0;", "take 9;");
        faulty(due, "put 10 in 0;", 2, 4);
        faulty(due, "take 10;", 2, 5);
        fine(due, "event 1=1;".repeat(10) + "may came 0 and came 9;");
        faulty(due, "event 1=1;".repeat(10) + "may came 10;", 2, 109);
    }

    @Says("ROOMS 0 .. 5).")
    static void roomNumbers(Due due) {
        fine(due, "set 0 to 0;", "set 5 to 0;", "put 0 in 0;", "put 0 in 5;");
        faulty(due, "set 6 to 0;", 2, 4);
        faulty(due, "put 0 in 6;", 2, 9);
    }

    @Says("3 the 9th of ( not count and - (of one ONE) that are open around one another (at it; the ( of count is no other one).")
    static void fault3(Due due) {
        fine(due, "event " + "(".repeat(8) + "1" + ")".repeat(8) + "=1;", "event " + "-".repeat(8) + "1=1;",
            "event " + "not ".repeat(8) + "was 0;", "event " + "count(".repeat(8) + "1=1" + ")=1".repeat(8) + ";",
            "event not count(not -(-(-1))=1)=1;", "event not not -(-(-(1)))=1;");
        faulty(due, "event " + "(".repeat(9) + "1" + ")".repeat(9) + "=1;", 3, 14);
        faulty(due, "event " + "-".repeat(9) + "1=1;", 3, 14);
        faulty(due, "event " + "not ".repeat(9) + "was 0;", 3, 38);
        faulty(due, "event " + "count(".repeat(9) + "1=1" + ")=1".repeat(9) + ";", 3, 54);
        faulty(due, "event not count(not -(-(-(1)))=1)=1;", 3, 25);
        fine(due, "event not -(-(-(count(1=1))))=1;");
        faulty(due, "event not -(-(-(count(-1=1))))=1;", 3, 22);
        // a minus between two opens nothing, and what has ended isn't open
        fine(due, "event 1" + "-1".repeat(20) + "=1;", "event (1)" + "+(1)".repeat(10) + "=1;",
            "event -1" + "+-1".repeat(10) + "=1;", "event not was 0" + " and not was 0".repeat(10) + ";",
            "event count(1=1)" + "+count(1=1)".repeat(9) + "=1;", "event not 1=1 and 1=" + "-".repeat(8) + "1;",
            "event -1-" + "-".repeat(8) + "1=1;", "event -1*" + "-".repeat(8) + "1=1;");
        // what is open ends at so, or, and
        for (String join : new String[] {"so", "or", "and"}) {
            fine(due, "event ---1=1 " + join + " " + "-".repeat(8) + "1=1;");
            faulty(due, "event 1=1 " + join + " ".repeat(4 - join.length()) + "-".repeat(9) + "1=1;", 3, 22);
        }
        // a not is open over all of its ask
        faulty(due, "event not 1=" + "-".repeat(8) + "1;", 3, 19);
        faulty(due, "event " + "(".repeat(8) + "1+-1" + ")".repeat(8) + "=1;", 3, 16);
    }

    @Says("4 may for the second time, the 11th event (at it).")
    static void fault4(Due due) {
        fine(due, "event 1=1;".repeat(10), "may 1=1;", "event 1=1;".repeat(10) + "may 1=1;");
        faulty(due, "may 1=1;may 1=1;", 4, 8);
        faulty(due, "may 1=1;  may", 4, 10);
        faulty(due, "event 1=1;".repeat(11), 4, 100);
        faulty(due, "event 1=1;".repeat(10) + "may 1=1; event", 4, 109);
    }

    @Says("5 behind came: an EVENT that isn't told ahead of that CLAUSE in this TEXT (at it).")
    static void fault5(Due due) {
        fine(due, "event 1=1;event came 0;", "event 1=1;may came 0;");
        faulty(due, "event came 0;", 5, 11);
        faulty(due, "may came 0;", 5, 9);
        faulty(due, "may came  0;event 1=1;", 5, 10);
        for (int told = 1; told <= 9; told++) {
            fine(due, "event 1=1;".repeat(told) + "event came " + (told - 1) + ";");
            faulty(due, "event 1=1;".repeat(told) + "event came " + told + ";", 5, told * 10 + 11);
        }
        WhatWasNearly x = Due.ruled("event 1=1;", 0);
        due.is("told in another text", Due.text(x, "event came 0;"), NONE);
        due.is("told in another text, fault", x.fault(0), 5);
    }

    @Says("6 the 25th CLAUSE (at its first TOKEN).")
    static void fault6(Due due) {
        fine(due, "turn 0;".repeat(24));
        faulty(due, "turn 0;".repeat(24) + "turn 0;", 6, 168);
        faulty(due, "turn 0;".repeat(24) + " \n take", 6, 171);
        faulty(due, "turn 0;".repeat(24) + "event", 6, 168);
        faulty(due, "turn 0;".repeat(24) + "may", 6, 168);
    }

    @Says("7 the , ahead of the 7th of one count (at it).")
    static void fault7(Due due) {
        String six = "event count(1=1" + ",1=1".repeat(5);
        fine(due, six + ")=6;");
        faulty(due, six + ",", 7, 35);
        faulty(due, six + " \n, 1=1)=6;", 7, 37);
        // of one count: those of another one aren't counted
        fine(due, "event count(count(1=1" + ",1=1".repeat(5) + ")=6" + ",1=1".repeat(5) + ")=6;",
            six + ")=count(1=1" + ",1=1".repeat(5) + ");");
        faulty(due, "event count(count(1=1" + ",1=1".repeat(5) + ")=6" + ",1=1".repeat(6) + ")=6;", 7, 64);
    }

    @Says("THE TEXT (told; at first none) rules: its EVENTS;")
    static void theText(Due due) {
        WhatWasNearly x = new WhatWasNearly();
        due.is("at first", x.about(6), NONE);
        Due.text(x, "event 1=1;may 1=2;");
        Due.text(x, "event 1=2;event 1=1;");
        due.is("told texts don't rule by themselves", x.about(6), NONE);
        due.is("without: no events", x.follows(0), 0);
        x.by(0);
        due.is("its events", x.follows(0), 1);
        x.by(1);
        due.is("the other's events", x.follows(0), 2);
    }

    @Says("a WAY may be, if may is so of it (done: of all EVENTS told ahead of may);")
    static void mayIsSo(Due due) {
        WhatWasNearly x = Due.ruled("event 1=1;event 1=1;may done=2 and was 0;event 1=1;", 1);
        due.is("so", x.mayBe(1), 1);
        due.is("not so", x.mayBe(0), 0);
        WhatWasNearly w = Due.ruled("turn 0;event 1=1;take 0;may done=1 and was 0;set 0 to 1;event 1=1;put 0 in 0;", 1);
        due.is("so, among deeds", w.mayBe(1), 1);
        due.is("not so, among deeds", w.mayBe(0), 0);
        WhatWasNearly y = Due.ruled("may done=0;event 1=1;", 0);
        due.is("none ahead", y.mayBe(0), 1);
        WhatWasNearly z = Due.ruled("event 1=1;".repeat(10) + "may done=10;", 0);
        due.is("ten ahead", z.mayBe(0), 1);
    }

    @Says("without: always.")
    static void withoutMay(Due due) {
        WhatWasNearly x = Due.ruled("event was 0;", 8);
        due.is("without may", x.left(NONE), 256);
        WhatWasNearly y = Due.ruled("turn 0;choice 1 odds 1;room 1 for 1;set 0 to 1;put 0 in 0;take 0;event 1=1;turn 0;", 8);
        due.is("without may, among deeds", y.left(NONE), 256);
        Due.text(x, "may 1=2;");
        x.by(1);
        due.is("by one that says never", x.left(NONE), 0);
        x.by(NONE);
        due.is("without a text", x.left(NONE), 256);
        due.is("a text without a clause", Due.text(x, ""), 2);
        x.by(2);
        due.is("by the empty text", x.mayBe(255), 1);
    }

    @Says("PLAYED by a TEXT: its CLAUSES but event, may, in their order, as by hand;")
    static void playedInOrder(Due due) {
        String text = "event 1=2;choice 0 odds 4;may 1=2;room 1 for 2;turn 0;set 0 to 0;put 0 in 0;take 0;";
        WhatWasNearly x = new WhatWasNearly();
        Due.text(x, text);
        x.piece(0, 0, 0, 0);
        due.is("played", x.played(0), NONE);
        WhatWasNearly y = new WhatWasNearly();
        Due.text(y, text);
        y.piece(0, 0, 0, 0);
        y.choice(0, 4);
        y.room(1, 2);
        y.turn(0);
        y.set(0, 0);
        y.put(0, 0);
        y.take(0);
        due.is("as by hand", Museums.shown(x).equals(Museums.shown(y)), true);
        WhatWasNearly z = Due.ruled("", 0);
        due.is("a text without a clause", z.played(0), NONE);
        WhatWasNearly v = Due.ruled("event was 1;may was 0;choice 0 odds 5;choice 1 odds 5;", 0);
        due.is("while it rules", v.played(0), NONE);
        due.is("what follows from the new ways", v.follows(2) * 10 + v.follows(3), 11);
        due.is("which of them may be", v.mayBe(1) * 1000 + v.mayBe(2) * 100 + v.mayBe(3), 1001);
        due.refuses("a text of laws alone", () -> Due.ruled("event 1=1;may 1=2;", 2), w -> w.played(0), NONE);
    }

    @Says("one that can't be ends it: its number among all CLAUSES (from 0);")
    static void playedToItsEnd(Due due) {
        WhatWasNearly x = Due.ruled("take 0;turn 0;", 1);
        x.piece(0, 0, 0, 0);
        due.is("the first", x.played(0), 0);
        due.is("what is behind it isn't done", x.was(), 0);
        due.is("no steps", x.about(7), 0);
        Due.text(x, "turn 0;".repeat(23) + "take 0;");
        due.is("the last", x.played(1), 23);
        Due.text(x, "event 1=1;may 1=1;event 1=1;take 0;");
        due.is("events and may are counted", x.played(2), 3);
        String[] texts = {"turn 1;", "set 0 to 1;", "set 1 to 0;", "set 0 to 0;", "put 0 in 1;", "put 1 in 0;",
            "put 0 in 0;put 0 in 0;", "put 0 in 0;put 2 in 0;", "take 0;", "take 1;", "room 2 for 1;"};
        int[] clauses = {0, 0, 0, 0, 0, 0, 1, 0, 0, 0, 0};
        for (int i = 0; i < texts.length; i++) {
            WhatWasNearly y = Due.ruled(texts[i], 1);
            y.room(i == 1 ? 1 : 0, 1);
            y.piece(0, 0, 0, 0);
            if (i == 5 || i == 7) {
                y.put(0, 0);
            }
            due.is("played " + texts[i], y.played(0), clauses[i]);
        }
        WhatWasNearly full = Due.ruled("choice 0 odds 0;".repeat(9), 0);
        due.is("a 9th choice", full.played(0), 8);
        WhatWasNearly rooms = Due.ruled("room 0 for 1;".repeat(7), 0);
        due.is("a 7th room", rooms.played(0), 6);
    }

    @Says("what was done stays.")
    static void whatWasDone(Due due) {
        WhatWasNearly x = Due.ruled("choice 1 odds 3;turn 0;room 2 for 1;turn 1;take 0;turn 1;", 1);
        due.is("take can't be", x.played(0), 4);
        due.is("choices", x.about(0), 2);
        due.is("rooms", x.about(2), 1);
        due.is("steps", x.about(7), 2);
        due.is("was", x.was(), 1);
        due.is("it can be taken back", x.undo(), 1);
        due.is("was ahead of it", x.was(), 3);
    }
}
