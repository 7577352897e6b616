/** Promises 20 to 24: the tape, the text of fees and the fees. */
public final class FeesTest {
    private static final int NONE = HearingDesk.NONE;

    public static void main(String[] args) {
        tape();
        goodTexts();
        faults();
        faultKeepsText();
        limits();
        tells();
        fees();
        cancelledFees();
        manyClauses();
        Due.end();
    }

    private static void tape() {
        HearingDesk x = new HearingDesk();
        Due.is("21: nothing there", x.end(0), 0);
        Due.is("21: not so many", x.end(1), NONE);
        Due.is("21: below 0", x.end(-1), NONE);
        Due.is("20: twenty", x.feed(1, 2, 3, 4, 5), 20);
        Due.is("20: forty", x.feed(-1, 2, 3, 4, 5), 40);
        Due.is("21: cut", x.end(21), 21);
        Due.is("21: no more now", x.end(22), NONE);
        Due.is("21: as many", x.end(21), 21);
        Due.is("20: behind the 21", x.feed(1, 2, 3, 4, 5), 41);
        x.end(0);
        for (int i = 1; i <= 30; i++) {
            Due.is("20: feed " + i, x.feed(0, 0, 0, 0, 0), 20 * i);
        }
        Due.is("20: full", x.feed(0, 0, 0, 0, 0), NONE);
        Due.is("20: none came", x.count(5), 600);
        x.end(581);
        Due.is("20: 601", x.feed(0, 0, 0, 0, 0), NONE);
        x.end(580);
        Due.is("20: 600", x.feed(0, 0, 0, 0, 0), 600);
        x.end(0);
        // "from 0 way 7" and more, the highest byte of each number first
        x.feed(0x66726f6d, 0x20302077, 0x61792037, 0x80ff0000, -1);
        x.end(13);
        Due.is("20: byte 128 is fed as it is", x.fees(), 1 + 4 * 12);
        x.feed(0x66726f6d, 0x20302077, 0x61792037, 0, 0);
        x.end(12);
        Due.is("20: a text", x.fees(), 0);
        Due.is("20: way", x.tells(0, 1), 7);
    }

    private static void goodTexts() {
        String[] texts = {"", " ", "      ", "from 0 way 1", "  from   0  way   1  ", "from 0 way 1;from 0 way 2",
            "from 0 way 1 ; from 0 way 2 ;  from 0 way 3", "from 00000 way 00001", "from 999 late 5000 100",
            "from0way1;from0rate5 1000"};
        int[] clauses = {0, 0, 0, 1, 1, 2, 3, 1, 1, 2};
        for (int i = 0; i < texts.length; i++) {
            HearingDesk x = new HearingDesk();
            Due.is("22: '" + texts[i] + "'", Due.fees(x, texts[i]), 0);
            Due.is("22: clauses of '" + texts[i] + "'", x.count(6), clauses[i]);
            Due.is("22: the tape is empty", x.count(5), 0);
        }
    }

    private static void fault(String text, int kind, int place) {
        Due.is("22: '" + text + "'", Due.fees(new HearingDesk(), text), kind + 4 * place);
    }

    private static void faults() {
        fault("x", 1, 0);
        fault(";", 1, 0);
        fault("  ;", 1, 2);
        fault("7", 1, 0);
        fault("From 0 way 1", 1, 0);
        fault("form 0 way 1", 1, 0);
        fault("fromm 0 way 1", 1, 0);
        fault("from", 1, 4);
        fault("from  ", 1, 6);
        fault("from x", 1, 5);
        fault("from ;", 1, 5);
        fault("from -1 way 1", 1, 5);
        fault("from 1000 way 1", 2, 5);
        fault("from 1000 wax", 2, 5);
        fault("from 100000", 2, 5);
        fault("from 000001 way 1", 2, 5);
        fault("from 5", 1, 6);
        fault("from 5 ", 1, 7);
        fault("from 5 5", 1, 7);
        fault("from 0 fee 1", 1, 7);
        fault("from 0 wa 1", 1, 7);
        fault("from 0 lest 1", 1, 7);
        fault("from 0 Way 1", 1, 7);
        fault("from 0 from 1", 1, 7);
        fault("from 0 way", 1, 10);
        fault("from 0 way;", 1, 10);
        fault("from 0 way x", 1, 11);
        fault("from 0 way 101", 2, 11);
        fault("from 0 way 123456", 2, 11);
        fault("from 0 way 000001", 2, 11);
        fault("from 0 way 99999999999999999999", 2, 11);
        fault("from 0 way 1 x", 1, 13);
        fault("from 0 way 1 2", 1, 13);
        fault("from 0 way 1,", 1, 12);
        fault("from 0 way 1\t", 1, 12);
        fault("from 0 way 1\0", 1, 12);
        fault("from 0 way 1;", 1, 13);
        fault("from 0 way 1;  ", 1, 15);
        fault("from 0 way 1;;", 1, 13);
        fault("from 0 way 1; from 0 way", 1, 24);
        fault("from 0 way 1 from 0 way 1", 1, 13);
        fault("from 0 rate 6 1", 2, 12);
        fault("from 0 rate 0 1", 2, 12);
        fault("from 0 rate 6", 2, 12);
        fault("from 0 rate 5", 1, 13);
        fault("from 0 rate 5;", 1, 13);
        fault("from 0 late 5", 1, 13);
        fault("from 0 late 5 x", 1, 14);
        fault("from 0 late 5001 101", 2, 12);
        fault("from 0 late 5000 101", 2, 17);
        fault("from 0 way 101; x", 2, 11);
        fault("\u00e6", 1, 0);
    }

    private static void faultKeepsText() {
        HearingDesk x = new HearingDesk();
        Due.fees(x, "from 0 way 5; from 0 least 9");
        Due.is("22: a fault behind good clauses", Due.fees(x, "from 0 way 8; from 0 way 7; from 0 way 6;"), 1 + 4 * 41);
        Due.is("22: way stays", x.tells(0, 1), 5);
        Due.is("22: clauses stay", x.count(6), 2);
        Due.is("22: the tape is empty", x.count(5), 0);
        Due.is("22: another text in its place", Due.fees(x, "from 3 way 8"), 0);
        Due.is("22: way", x.tells(3, 1), 8);
        Due.is("22: least is gone", x.tells(3, 0), 0);
        Due.is("22: one clause", x.count(6), 1);
        Due.is("22: blanks", Due.fees(x, "  "), 0);
        Due.is("22: no clauses", x.count(6), 0);
        Due.is("22: no way", x.tells(3, 1), 0);
    }

    /** Of a kind with its other numbers ahead and behind: the least and most that its number can be. */
    private static void limit(String ahead, int least, int most, String behind) {
        Due.is("22: " + ahead + least, Due.fees(new HearingDesk(), ahead + least + behind), 0);
        Due.is("22: " + ahead + most, Due.fees(new HearingDesk(), ahead + most + behind), 0);
        fault(ahead + (most + 1) + behind, 2, ahead.length());
        if (least > 0) {
            fault(ahead + (least - 1) + behind, 2, ahead.length());
        }
    }

    private static void limits() {
        limit("from ", 0, 999, " way 1");
        limit("from 0 rate ", 1, 5, " 1");
        limit("from 0 rate 1 ", 0, 1000, "");
        limit("from 0 least ", 0, 480, "");
        limit("from 0 way ", 0, 100, "");
        limit("from 0 pair ", 50, 300, "");
        limit("from 0 relay ", 50, 300, "");
        limit("from 0 late ", 0, 5000, " 1");
        limit("from 0 late 1 ", 0, 100, "");
    }

    private static void tells() {
        HearingDesk x = new HearingDesk();
        int[] without = {0, 0, 100, 100, 0, 0};
        for (int what = 0; what < 6; what++) {
            Due.is("23: without, " + what, x.tells(5, what), without[what]);
        }
        Due.is("23: rate without", x.tells(5, 11), 0);
        Due.fees(x, "from 5 rate 4 120; from 0 rate 4 60; from 5 least 90; from 5 way 3; from 5 pair 75;"
                + "from 5 relay 150; from 5 late 600 50; from 5 rate 1 1; from 5 rate 2 2; from 5 rate 3 3; from 5 rate 5 5");
        for (int what = 0; what < 6; what++) {
            Due.is("23: the day ahead, " + what, x.tells(4, what), without[what]);
        }
        int[] with = {90, 3, 75, 150, 600, 50, NONE, NONE, NONE, NONE, NONE, 1, 2, 3, 120, 5, NONE};
        for (int what = 0; what < with.length; what++) {
            Due.is("23: the day, " + what, x.tells(5, what), with[what]);
            Due.is("23: the last day, " + what, x.tells(999, what), with[what]);
        }
        Due.is("23: rate ahead", x.tells(4, 14), 60);
        Due.is("23: no day", x.tells(1000, 0), NONE);
        Due.is("23: no day -1", x.tells(-1, 0), NONE);
        Due.is("23: what -1", x.tells(0, -1), NONE);
        Due.fees(x, "from 5 way 1; from 5 way 2; from 3 way 4; from 7 late 10 20; from 7 late 30 40; from 9 way 9");
        Due.is("23: of several the one told last", x.tells(5, 1), 2);
        Due.is("23: between", x.tells(4, 1), 4);
        Due.is("23: ahead of all", x.tells(2, 1), 0);
        Due.is("23: latest", x.tells(9, 1), 9);
        Due.is("23: late minutes told last", x.tells(7, 4), 30);
        Due.is("23: late hundredths told last", x.tells(7, 5), 40);
    }

    /** Person 0 and 1 of town 0, grade 4 in 0 and 1; 2 is of 0 and 3, 3 of 3 and 2. */
    private static HearingDesk desk() {
        HearingDesk x = new HearingDesk();
        int[][] tongues = {{0, 1}, {0, 1}, {0, 3}, {3, 2}};
        for (int p = 0; p < 4; p++) {
            x.person(0);
            x.paper(p, tongues[p][0], 4, 0, 999);
            x.paper(p, tongues[p][1], 4, 0, 999);
        }
        return x;
    }

    private static final String TEXT = "from 0 rate 4 61;from 0 rate 3 30;from 5 rate 4 120;from 0 least 50;from 0 way 3;"
            + "from 0 pair 75;from 0 relay 150;from 0 late 600 55";

    private static void fees() {
        HearingDesk x = desk();
        x.way(0, 1, 17);
        x.hearing(0, 0, 600, 55, 1, 1, 4);
        x.hearing(0, 1, 600, 100, 0, 1, 4);
        x.hearing(0, 2, 600, 30, 1, 2, 4);
        x.hearing(0, 5, 600, 55, 0, 1, 4);
        x.hearing(0, 5, 900, 55, 0, 1, 3);
        x.hearing(0, 6, 900, 55, 1, 1, 2);
        for (int day = 0; day < 10; day++) {
            x.plan(day, false);
        }
        Due.is("24: without a text", x.fee(0, 0), 0);
        Due.fees(x, TEXT);
        // 55 * 61 / 60 = 55; journeys 34 / 10 = 3, times 3
        Due.is("24: one alone", x.fee(0, 0), 55 + 9);
        Due.is("24: who has no seat", x.fee(1, 0), 0);
        // 100 * 61 / 60 = 101, times 75 / 100 = 75
        Due.is("24: of a pair", x.fee(0, 1), 75);
        Due.is("24: the other of it", x.fee(1, 1), 75);
        // 50 * 61 / 60 = 50, times 150 / 100 = 75
        Due.is("24: of a relay", x.fee(2, 2), 75 + 9);
        Due.is("24: the other of it", x.fee(3, 2), 75 + 9);
        // 55 * 120 / 60 = 110, 55 * 30 / 60 = 27
        Due.is("24: two", x.fee(0, 5), 110 + 27);
        Due.is("24: no rate of grade 2, the journeys alone", x.fee(0, 6), 9);
        x.move(0, 5, 0);
        Due.is("24: moved away", x.fee(0, 0), 0);
        Due.is("24: moved there", x.fee(0, 5), 110 + 110 + 27 + 9);
        Due.is("24: no person", x.fee(4, 0), NONE);
        Due.is("24: no person -1", x.fee(-1, 0), NONE);
        Due.is("24: no day", x.fee(0, 1000), NONE);
        Due.is("24: no day -1", x.fee(0, -1), NONE);
    }

    private static void cancelledFees() {
        HearingDesk x = desk();
        x.hearing(0, 0, 600, 55, 1, 1, 4);
        x.hearing(0, 1, 600, 55, 1, 1, 4);
        x.hearing(0, 2, 600, 101, 1, 1, 4);
        x.hearing(0, 3, 600, 55, 1, 1, 4);
        x.hearing(0, 3, 800, 55, 1, 1, 4);
        x.hearing(0, 4, 800, 55, 1, 1, 4);
        for (int day = 0; day < 4; day++) {
            x.plan(day, false);
        }
        Due.fees(x, TEXT);
        x.cancel(0, 599);
        x.cancel(1, 600);
        x.cancel(2, 0);
        x.cancel(3, 0);
        x.cancel(5, 0);
        // 55 * 55 / 100 = 30, and no journeys
        Due.is("24: late", x.fee(0, 0), 30);
        Due.is("24: not late", x.fee(0, 1), 0);
        // 101 * 61 / 60 = 102, times 75 / 100 = 76, times 55 / 100 = 41
        Due.is("24: late, of a pair", x.fee(1, 2), 41);
        Due.is("24: one is cancelled, one is not", x.fee(0, 3), 30 + 55 + 36);
        Due.is("24: nobody had a seat", x.fee(0, 4), 0);
        x.plan(0, false);
        Due.is("24: a plan does not touch it", x.fee(0, 0), 30);
        Due.fees(x, "from 0 rate 4 60");
        Due.is("24: without late", x.fee(0, 0), 0);
    }

    private static void manyClauses() {
        StringBuilder text = new StringBuilder("from0way0");
        for (int i = 1; i < 60; i++) {
            text.append(";from0way").append(i % 10);
        }
        HearingDesk x = new HearingDesk();
        Due.is("22: the most clauses", Due.fees(x, text.toString()), 0);
        Due.is("22: sixty", x.count(6), 60);
        Due.is("22: the last holds", x.tells(0, 1), 9);
        Due.is("22: one byte more", Due.fees(x, text + ";"), 1 + 4 * 600);
    }
}
