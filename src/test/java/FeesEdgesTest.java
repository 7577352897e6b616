/**
 * The Terms IV and the promises 20 to 24: a test for each sentence that names an edge, with the sentence above it.
 * RangesTest has each argument's bounds.
 */
public final class FeesEdgesTest {
    private static final int NONE = HearingDesk.NONE;
    private static final int LEAST = 0;
    private static final int WAY = 1;
    private static final int PAIR = 2;
    private static final int RELAY = 3;
    private static final int LATE = 4;
    private static final int LATE_SHARE = 5;
    private static final int RATE = 10;

    public static void main(String[] args) {
        highestFirst();
        everyByteComes();
        sixHundredBytes();
        moreThanSixHundred();
        firstBytesAlone();
        notSoMany();
        tapeIsEmptyThen();
        inPlaceOfTheOneAhead();
        thatOneStays();
        blanksAlone();
        blanksBetween();
        textOfSixHundred();
        textOfMostClauses();
        bytesAtTheStart();
        bytesBehindAClause();
        bytesForANumber();
        wrongWords();
        wrongPlacesOfWords();
        theEnd();
        numbersOfDigits();
        numbersOfKinds();
        firstFaultOfSeveral();
        latestDay();
        toldLast();
        eachGradeItsOwn();
        without();
        greaterOfLengthAndLeast();
        rateByTheHour();
        pairAndRelay();
        late();
        lateBound();
        journeysByTen();
        journeysOfOneNotCancelled();
        seatsAsTheyWereThen();
        feeOfItsDay();
        eachKindOfItsDay();
        feeOfNone();
        Due.end();
    }

    private static void fault(String text, int kind, int place) {
        HearingDesk x = new HearingDesk();
        Due.is("22: '" + text + "'", Due.fees(x, text), kind + 4 * place);
        Due.is("22: clauses of '" + text + "'", x.count(6), 0);
    }

    private static HearingDesk reads(String text, int clauses) {
        HearingDesk x = new HearingDesk();
        Due.is("22: '" + text + "'", Due.fees(x, text), 0);
        Due.is("22: clauses of '" + text + "'", x.count(6), clauses);
        return x;
    }

    /** "Twenty bytes come behind the TAPE, of each number the highest first": from 12 late 345 067 */
    private static void highestFirst() {
        HearingDesk x = new HearingDesk();
        Due.is("20: twenty", x.feed(0x66726f6d, 0x20313220, 0x6c617465, 0x20333435, 0x20303637), 20);
        Due.is("22: as they stand", x.fees(), 0);
        Due.is("23: minutes", x.tells(12, LATE), 345);
        Due.is("23: hundredths", x.tells(12, LATE_SHARE), 67);
        x.feed(0x66726f6d, 0x20302077, 0x61792020, 0x20202020, 0x20202020);
        Due.is("20: behind them", x.feed(0x37202020, 0x20202020, 0x20202020, 0x20202020, 0x20202020), 40);
        Due.is("22: both", x.fees(), 0);
        Due.is("23: way", x.tells(0, WAY), 7);
    }

    /** The same of bytes that are no letters: 0, 127, 128, 255, at each place of a number */
    private static void everyByteComes() {
        for (int b : new int[] {0, 10, 31, 33, 127, 128, 160, 255}) {
            for (int place = 0; place < 4; place++) {
                int word = 0x20202020 & ~(255 << 24 - 8 * place) | b << 24 - 8 * place;
                HearingDesk x = new HearingDesk();
                Due.is("20: " + b, x.feed(0x20202020, 0x20202020, word, 0x20202020, 0x20202020), 20);
                Due.is("22: " + b + " at " + (8 + place), x.fees(), 1 + 4 * (8 + place));
            }
        }
    }

    /** "how many it has": up to 600 */
    private static void sixHundredBytes() {
        HearingDesk x = new HearingDesk();
        for (int i = 1; i <= 30; i++) {
            Due.is("20: feed " + i, x.feed(i, -i, 0, Integer.MIN_VALUE, Integer.MAX_VALUE), 20 * i);
            Due.is("29: bytes", x.count(5), 20 * i);
        }
        Due.is("20: a 31st", x.feed(0, 0, 0, 0, 0), NONE);
        Due.is("29: bytes", x.count(5), 600);
        Due.is("21: all of them", x.end(600), 600);
        Due.is("21: one more", x.end(601), NONE);
    }

    /** "NONE, and none comes: it would have more than 600" */
    private static void moreThanSixHundred() {
        for (int before = 579; before <= 600; before++) {
            HearingDesk x = new HearingDesk();
            Due.type(x, Desks.filled("from 0 way 9", before));
            boolean comes = before <= 580;
            int due = comes ? before + 20 : NONE;
            Due.is("20: behind " + before, x.feed(0x20202020, 0x20202020, 0x20202020, 0x20202020, 0x20202078), due);
            Due.is("29: behind " + before, x.count(5), comes ? before + 20 : before);
            Due.is("22: behind " + before, x.fees(), comes ? 1 + 4 * (before + 19) : 0);
        }
        Twins.unchanged("20: a full tape", Desks::full, x -> x.feed(0, 0, 0, 0, 0), NONE);
    }

    /** "The TAPE has its first n bytes alone: n" */
    private static void firstBytesAlone() {
        int[] ways = {1, 12, 100};
        for (int i = 0; i < ways.length; i++) {
            HearingDesk x = new HearingDesk();
            Due.type(x, i == 2 ? "from 0 way 100" : "from 0 way 123");
            Due.is("21: first " + (12 + i), x.end(12 + i), 12 + i);
            Due.is("29: bytes", x.count(5), 12 + i);
            x.fees();
            Due.is("23: way", x.tells(0, WAY), ways[i]);
        }
        HearingDesk x = new HearingDesk();
        Due.type(x, "from 0 way 1");
        Due.is("21: none", x.end(0), 0);
        Due.is("29: none", x.count(5), 0);
        Due.is("20: behind none", x.feed(0x66726f6d, 0x20302077, 0x61792037, 0x20202020, 0x20202020), 20);
        x.fees();
        Due.is("23: way", x.tells(0, WAY), 7);
        Due.is("21: of an empty tape none", x.end(0), 0);
    }

    /** "NONE, and nothing happens, if it has not so many, or n is below 0" */
    private static void notSoMany() {
        HearingDesk x = new HearingDesk();
        Due.is("21: of an empty tape one", x.end(1), NONE);
        Due.type(x, "from 0 way 12");
        Due.is("21: 14 of 13", x.end(14), NONE);
        Due.is("21: -1 of 13", x.end(-1), NONE);
        Due.is("29: 13", x.count(5), 13);
        Due.is("21: 12 of 13", x.end(12), 12);
        Due.is("21: 13 of 12", x.end(13), NONE);
        Due.is("29: 12", x.count(5), 12);
        x.fees();
        Due.is("23: way", x.tells(0, WAY), 1);
    }

    /** "The TAPE, which is empty then": with a FAULT too */
    private static void tapeIsEmptyThen() {
        HearingDesk x = new HearingDesk();
        Due.is("22: no fault", Due.fees(x, "from 0 way 1"), 0);
        Due.is("29: empty", x.count(5), 0);
        Due.is("22: a fault", Due.fees(x, "from 0 way 1;"), 1 + 4 * 13);
        Due.is("29: empty behind a fault", x.count(5), 0);
        Due.is("20: from the start", x.feed(0, 0, 0, 0, 0), 20);
    }

    /** "is the text of FEES (in place of the one ahead): 0": an empty TAPE too */
    private static void inPlaceOfTheOneAhead() {
        HearingDesk x = new HearingDesk();
        Due.fees(x, "from 0 way 1; from 0 least 2; from 0 rate 5 3");
        Due.is("22: another", Due.fees(x, "from 1 least 4"), 0);
        Due.is("29: one clause", x.count(6), 1);
        Due.is("23: no way", x.tells(1, WAY), 0);
        Due.is("23: no rate", x.tells(1, RATE + 5), 0);
        Due.is("23: no least on day 0", x.tells(0, LEAST), 0);
        Due.is("23: least on day 1", x.tells(1, LEAST), 4);
        Due.is("22: the empty tape", x.fees(), 0);
        Due.is("29: no clauses", x.count(6), 0);
        Due.is("23: no least", x.tells(1, LEAST), 0);
    }

    /** "or its FAULT (then that one stays)": all of it, however many CLAUSES are ahead of the FAULT */
    private static void thatOneStays() {
        HearingDesk x = new HearingDesk();
        Due.fees(x, "from 3 way 1; from 3 least 2");
        String[] wrong = {"x", "from 3 way 101", "from 0 way 9; from 0 way 8; from 0 least 7; from 0 least", ";",
            "from 3 way 9 ; from 3 least 9 x"};
        int[] faults = {1, 2 + 4 * 11, 1 + 4 * 56, 1, 1 + 4 * 30};
        for (int i = 0; i < wrong.length; i++) {
            Due.is("22: '" + wrong[i] + "'", Due.fees(x, wrong[i]), faults[i]);
            Due.is("29: two clauses", x.count(6), 2);
            Due.is("23: way stays", x.tells(3, WAY), 1);
            Due.is("23: least stays", x.tells(3, LEAST), 2);
            Due.is("23: none on day 2", x.tells(2, LEAST), 0);
        }
    }

    /** "(A text of blanks alone has no CLAUSES, and no FAULT.)" */
    private static void blanksAlone() {
        for (int many : new int[] {0, 1, 19, 20, 21, 599, 600}) {
            HearingDesk x = new HearingDesk();
            Due.fees(x, "from 0 way 1");
            Due.is("22: blanks, " + many, Due.fees(x, " ".repeat(many)), 0);
            Due.is("29: no clauses", x.count(6), 0);
            Due.is("23: no way", x.tells(0, WAY), 0);
        }
        fault("  \t", 1, 2);
        fault("  \u0000", 1, 2);
        fault(Desks.filled("", 599) + "x", 1, 599);
    }

    /** "blanks (32) between": as many as there be, at the start and the end too */
    private static void blanksBetween() {
        String[] parts = {"", "from", "3", "rate", "5", "7", ";", "from", "4", "late", "8", "9", ""};
        for (String blanks : new String[] {" ", "  ", " ".repeat(40)}) {
            HearingDesk x = reads(String.join(blanks, parts), 2);
            Due.is("23: rate", x.tells(3, RATE + 5), 7);
            Due.is("23: late", x.tells(4, LATE_SHARE), 9);
        }
        reads("from 3 rate 5 7;from 4 late 8 9", 2);
        fault("from 0 wa y 1", 1, 7);
        fault("fr om 0 way 1", 1, 0);
        fault("from 0 way 1 0", 1, 13);
        fault("from 0 0 way 1", 1, 7);
    }

    /** "a text of at most 600 bytes": the last byte counts as any other */
    private static void textOfSixHundred() {
        String start = Desks.filled("from 0 way 1;", 588);
        Due.is("the text's length", (start + "from 0 way 9").length(), 600);
        Due.is("23: way", reads(start + "from 0 way 9", 2).tells(0, WAY), 9);
        Due.is("23: way of 599", reads(Desks.filled("from 0 way 1;", 587) + "from 0 way 8", 2).tells(0, WAY), 8);
        fault(Desks.filled("from 0 way 1;", 600), 1, 600);
        fault(Desks.filled("from 0 way 1", 599) + ";", 1, 600);
        fault(Desks.filled("from 0 way 1", 599) + "x", 1, 599);
        fault(Desks.filled("from 0 way 1;", 586) + "from 0 way 101", 2, 597);
        fault(Desks.filled("from 0 way", 599) + "x", 1, 599);
        Due.is("23: a number at the end", reads(Desks.filled("from 0 way", 599) + "5", 1).tells(0, WAY), 5);
    }

    /** "CLAUSE { ; CLAUSE }": as many as 600 bytes can hold, and the last one counts as any other */
    private static void textOfMostClauses() {
        StringBuilder text = new StringBuilder("from1way1");
        for (int i = 2; i <= 60; i++) {
            text.append(";from").append(i == 60 ? 9 : 1).append("way").append(i % 10);
        }
        HearingDesk x = reads(text.toString(), 60);
        Due.is("23: ahead of the first", x.tells(0, WAY), 0);
        Due.is("23: the last but one", x.tells(8, WAY), 9);
        Due.is("23: the last", x.tells(9, WAY), 0);
        fault(text + ";", 1, 600);
    }

    /** "1 a byte .. that can't stand there": each byte at the start */
    private static void bytesAtTheStart() {
        for (char b = 0; b < 256; b++) {
            HearingDesk x = new HearingDesk();
            Due.is("22: byte " + (int) b, Due.fees(x, String.valueOf(b)), b == ' ' ? 0 : 1);
            Due.is("22: byte " + (int) b + " behind a blank", Due.fees(x, " " + b), b == ' ' ? 0 : 1 + 4);
        }
    }

    /** The same of each byte behind a CLAUSE: a blank, a digit more, or ; and then not the end */
    private static void bytesBehindAClause() {
        for (char b = 0; b < 256; b++) {
            HearingDesk x = new HearingDesk();
            boolean isDigit = b >= '0' && b <= '9';
            int behind = b == ' ' || isDigit ? 0 : b == ';' ? 1 + 4 * 13 : 1 + 4 * 12;
            Due.is("22: byte " + (int) b + " behind 1", Due.fees(x, "from 0 way 1" + b), behind);
            Due.is("23: way", x.tells(0, WAY), behind != 0 ? 0 : isDigit ? 10 + b - '0' : 1);
            int apart = b == ' ' ? 0 : b == ';' ? 1 + 4 * 14 : 1 + 4 * 13;
            Due.is("22: byte " + (int) b + " behind 1 and a blank", Due.fees(x, "from 0 way 1 " + b), apart);
        }
    }

    /** The same of each byte where a NUMBER stands */
    private static void bytesForANumber() {
        for (char b = 0; b < 256; b++) {
            HearingDesk x = new HearingDesk();
            boolean isDigit = b >= '0' && b <= '9';
            int due = isDigit ? 0 : b == ' ' ? 1 + 4 * 12 : 1 + 4 * 11;
            Due.is("22: byte " + (int) b + " for a number", Due.fees(x, "from 0 way " + b), due);
            int day = isDigit ? 0 : b == ' ' ? 1 + 4 * 7 : 1 + 4 * 5;
            Due.is("22: byte " + (int) b + " for a day", Due.fees(x, "from " + b + " way 1"), day);
        }
    }

    /** "1 a .. word .. that can't stand there": a letter less or more, another one, a great one */
    private static void wrongWords() {
        String[] words = {"rate", "least", "way", "pair", "relay", "late"};
        String[] numbers = {" 1 1", " 1", " 1", " 50", " 50", " 1 1"};
        for (int i = 0; i < words.length; i++) {
            String word = words[i];
            reads("from 0 " + word + numbers[i], 1);
            fault("from 0 " + word.substring(0, word.length() - 1) + numbers[i], 1, 7);
            fault("from 0 " + word.substring(1) + numbers[i], 1, 7);
            fault("from 0 " + word + "s" + numbers[i], 1, 7);
            fault("from 0 " + word.substring(0, word.length() - 1) + "z" + numbers[i], 1, 7);
            fault("from 0 " + word.toUpperCase() + numbers[i], 1, 7);
        }
        for (String word : new String[] {"f", "fro", "form", "fromm", "ffrom", "FROM", "From", "way"}) {
            fault(word + " 0 way 1", 1, 0);
            fault("from 0 way 1;" + word + " 0 way 1", 1, 13);
        }
    }

    /** The same of WORDS and NUMBERS that can't stand where they do */
    private static void wrongPlacesOfWords() {
        fault("from from 0 way 1", 1, 5);
        fault("from way 1", 1, 5);
        fault("from 0 from 0 way 1", 1, 7);
        fault("from 0 1", 1, 7);
        fault("from 0 ; way 1", 1, 7);
        fault("0 way 1", 1, 0);
        fault("from 0 way way", 1, 11);
        fault("from 0 way ;", 1, 11);
        fault("from 0 way 1 way 2", 1, 13);
        fault("from 0 way 1 from 0 way 2", 1, 13);
        fault("from 0 way 1 2", 1, 13);
        fault("from 0 rate 1 2 3", 1, 16);
        fault("from 0 rate 1;", 1, 13);
        fault("from 0 late 1 x", 1, 14);
        fault("from 0 way 1;;from 0 way 2", 1, 13);
        fault(";from 0 way 1", 1, 0);
        fault("from 0 way -1", 1, 11);
        fault("from 0 way 1,5", 1, 12);
    }

    /** "1 .. the end that can't stand there": its place is behind the last byte */
    private static void theEnd() {
        String[] starts = {"from", "from 0", "from 0 way", "from 0 rate", "from 0 rate 1", "from 0 late", "from 0 late 1",
            "from 0 way 1;", "from 0 way 1;from", "from 0 way 1;from 0 pair"};
        for (String start : starts) {
            for (int blanks = 0; blanks < 3; blanks++) {
                fault(start + " ".repeat(blanks), 1, start.length() + blanks);
            }
        }
    }

    /** "NUMBERS 1 to 5 digits"; "2 a NUMBER that is not as told (its first byte)" */
    private static void numbersOfDigits() {
        for (int digits = 1; digits <= 7; digits++) {
            String zeros = "0".repeat(digits - 1);
            String text = "from 0 way " + zeros + "7";
            String day = "from " + zeros + "7 way 7";
            if (digits <= 5) {
                Due.is("23: way", reads(text, 1).tells(0, WAY), 7);
                Due.is("23: way on day 6", reads(day, 1).tells(6, WAY), 0);
                Due.is("23: way on day 7", reads(day, 1).tells(7, WAY), 7);
            } else {
                fault(text, 2, 11);
                fault(day, 2, 5);
            }
        }
        fault("from 0 way 99999", 2, 11);
        fault("from 0 way 100000", 2, 11);
        fault("from 0 way 4294967297", 2, 11);
        fault("from 0 way 18446744073709551617", 2, 11);
        fault("from 4294967296 way 1", 2, 5);
        fault("from 0 way " + "0".repeat(589), 2, 11);
    }

    /** The least and most of a NUMBER, what is told then, and one outside of them; a NUMBER is never below 0. */
    private static void limits(String ahead, int least, int most, String behind, int what) {
        Due.is("23: the least", reads(ahead + least + behind, 1).tells(0, what), least);
        Due.is("23: the most", reads(ahead + most + behind, 1).tells(0, what), most);
        fault(ahead + (most + 1) + behind, 2, ahead.length());
        if (least > 0) {
            fault(ahead + (least - 1) + behind, 2, ahead.length());
            fault(ahead + "0" + behind, 2, ahead.length());
        }
    }

    /** "rate g n (grade 1 to 5: n .. to 1000); least n (.. to 480); way n (.. to 100) .. (hundredths, 50 to 300 ..)" */
    private static void numbersOfKinds() {
        limits("from 0 least ", 0, 480, "", LEAST);
        limits("from 0 way ", 0, 100, "", WAY);
        limits("from 0 pair ", 50, 300, "", PAIR);
        limits("from 0 relay ", 50, 300, "", RELAY);
        limits("from 0 late ", 0, 5000, " 1", LATE);
        limits("from 0 late 1 ", 0, 100, "", LATE_SHARE);
        for (int g = 1; g <= 5; g++) {
            limits("from 0 rate " + g + " ", 0, 1000, "", RATE + g);
        }
        fault("from 0 rate 0 1", 2, 12);
        fault("from 0 rate 6 1", 2, 12);
        reads("from 999 way 1", 1);
        fault("from 1000 way 1", 2, 5);
    }

    /** "the place of the first byte that can't be so" */
    private static void firstFaultOfSeveral() {
        fault("from 1000 wax 1", 2, 5);
        fault("from 0 wax 101", 1, 7);
        fault("from 0 rate 6 1001", 2, 12);
        fault("from 0 late 5001 101", 2, 12);
        fault("from 0 late 5000 101 x", 2, 17);
        fault("from 0 way 101;", 2, 11);
        fault("from 0 way 101 x", 2, 11);
        fault("from 0 way 1; from 0 pair 49; x", 2, 26);
        fault("from 0 way 1 x; from 0 pair 49", 1, 13);
        fault("from 1000 way", 2, 5);
        fault("# from 1000 way", 1, 0);
    }

    /** "On a DAY of each KIND .. the CLAUSE holds that has the latest DAY not behind it" */
    private static void latestDay() {
        HearingDesk x = reads("from 10 way 1; from 999 way 3; from 20 way 2; from 0 least 5", 4);
        int[][] due = {{0, 0}, {9, 0}, {10, 1}, {19, 1}, {20, 2}, {998, 2}, {999, 3}};
        for (int[] n : due) {
            Due.is("23: way on " + n[0], x.tells(n[0], WAY), n[1]);
            Due.is("23: least on " + n[0], x.tells(n[0], LEAST), 5);
        }
    }

    /** "(of several the one told last)" */
    private static void toldLast() {
        HearingDesk x = reads("from 5 way 1; from 6 way 9; from 5 way 2; from 5 way 3; from 4 way 8", 5);
        Due.is("23: on 4", x.tells(4, WAY), 8);
        Due.is("23: on 5", x.tells(5, WAY), 3);
        Due.is("23: on 6", x.tells(6, WAY), 9);
        HearingDesk y = reads("from 5 late 10 90; from 5 late 20 80; from 4 late 30 70", 3);
        Due.is("23: minutes of late", y.tells(5, LATE), 20);
        Due.is("23: hundredths of late", y.tells(5, LATE_SHARE), 80);
        Due.is("23: hundredths of late ahead", y.tells(4, LATE_SHARE), 70);
    }

    /** "(rate: of each grade)" */
    private static void eachGradeItsOwn() {
        HearingDesk x = reads("from 5 rate 1 11; from 6 rate 2 22; from 6 rate 5 55; from 7 rate 1 12", 4);
        int[][] due = {{11, 0, 0, 0, 0}, {11, 22, 0, 0, 55}, {12, 22, 0, 0, 55}};
        for (int day = 5; day <= 7; day++) {
            for (int g = 1; g <= 5; g++) {
                Due.is("23: rate " + g + " on " + day, x.tells(day, RATE + g), due[day - 5][g - 1]);
            }
            Due.is("23: no rate 0", x.tells(day, RATE), NONE);
            Due.is("23: no rate 6", x.tells(day, RATE + 6), NONE);
        }
    }

    /** "without: 0, of pair and relay 100": ahead of the first DAY too */
    private static void without() {
        HearingDesk x = reads("from 5 least 1; from 5 way 1; from 5 pair 51; from 5 relay 52; from 5 late 1 1; "
                + "from 5 rate 1 1", 6);
        int[] ahead = {0, 0, 100, 100, 0, 0};
        int[] then = {1, 1, 51, 52, 1, 1};
        for (int what = 0; what < 6; what++) {
            Due.is("23: ahead, " + what, x.tells(4, what), ahead[what]);
            Due.is("23: then, " + what, x.tells(5, what), then[what]);
        }
        Due.is("23: rate ahead", x.tells(4, RATE + 1), 0);
        Due.is("23: rate then", x.tells(5, RATE + 1), 1);
    }

    /** Two persons of town 0 of grade 4 in 0 and 1, a third of 2 and 3 and a fourth of 0 and 3: a relay for 2. */
    private static HearingDesk desk() {
        HearingDesk x = new HearingDesk();
        int[][] tongues = {{0, 1}, {0, 1}, {2, 3}, {0, 3}};
        for (int p = 0; p < 4; p++) {
            x.person(0);
            x.paper(p, tongues[p][0], 4, 0, 999);
            x.paper(p, tongues[p][1], 4, 0, 999);
        }
        return x;
    }

    /** A planned hearing of day 0 and grade 3 in town 0, and a text. */
    private static HearingDesk seated(int length, int tongue, String text) {
        HearingDesk x = desk();
        x.hearing(0, 0, 0, length, 0, tongue, 3);
        x.plan(0, false);
        Due.is("22: " + text, Due.fees(x, text), 0);
        return x;
    }

    /** "the greater of its length and least" */
    private static void greaterOfLengthAndLeast() {
        int[][] paid = {{0, 60}, {59, 60}, {60, 60}, {61, 61}, {480, 480}};
        for (int[] n : paid) {
            HearingDesk x = seated(60, 1, "from 0 rate 3 60; from 0 least " + n[0]);
            Due.is("24: least " + n[0], x.fee(0, 0), n[1]);
        }
    }

    /** "times rate of its grade by 60, downwards": of the HEARING's grade, not of the PERSON's */
    private static void rateByTheHour() {
        int[][] coins = {{0, 0}, {5, 0}, {6, 1}, {11, 1}, {12, 2}, {1000, 166}};
        for (int[] n : coins) {
            HearingDesk x = seated(10, 1, "from 0 rate 4 777; from 0 rate 2 888; from 0 rate 3 " + n[0]);
            Due.is("24: rate " + n[0], x.fee(0, 0), n[1]);
        }
        Due.is("24: the most", seated(240, 1, "from 0 rate 3 1000;from 0 pair 300;from 0 least 480").fee(1, 0), 24000);
    }

    /** "times pair (relay) by 100, downwards": the hour's part is cut ahead of it; of one PERSON neither */
    private static void pairAndRelay() {
        String text = "from 0 rate 3 61; from 0 pair 300; from 0 relay 55";
        // 91 * 61 / 60 = 92, 90 * 61 / 60 = 91
        Due.is("24: first of a pair", seated(91, 1, text).fee(0, 0), 276);
        Due.is("24: second of a pair", seated(91, 1, text).fee(1, 0), 276);
        Due.is("24: first of a relay", seated(90, 2, text).fee(3, 0), 50);
        Due.is("24: second of a relay", seated(90, 2, text).fee(2, 0), 50);
        Due.is("24: of one", seated(90, 1, text).fee(0, 0), 91);
        Due.is("24: of none", seated(90, 1, text).fee(1, 0), 0);
        Due.is("24: a pair without", seated(91, 1, "from 0 rate 3 61").fee(1, 0), 92);
        Due.is("24: a relay without", seated(90, 2, "from 0 rate 3 61").fee(2, 0), 91);
        Due.is("24: half of 1", seated(91, 1, "from 0 rate 3 1; from 0 pair 50").fee(0, 0), 0);
    }

    /** "of a CANCELLED one ..: that times n of late by 100, downwards" */
    private static void late() {
        int[][] shares = {{0, 0}, {1, 2}, {50, 138}, {99, 273}, {100, 276}};
        for (int[] n : shares) {
            HearingDesk x = seated(91, 1, "from 0 rate 3 61; from 0 pair 300; from 0 late 100 " + n[0]);
            x.cancel(0, 99);
            Due.is("24: late by " + n[0], x.fee(0, 0), n[1]);
        }
        HearingDesk x = seated(91, 1, "from 0 rate 3 61; from 0 pair 300");
        x.cancel(0, 0);
        Due.is("24: without late", x.fee(0, 0), 0);
    }

    /** "if it was CANCELLED less than m MINUTES ahead of its begin, else 0" */
    private static void lateBound() {
        int[][] bounds = {{0, 0, 0}, {1, 0, 60}, {1, 1, 0}, {600, 599, 60}, {600, 600, 0}, {5000, 4999, 60}, {5000, 5000, 0},
            {5000, 100000, 0}, {5000, 0, 60}};
        for (int[] n : bounds) {
            HearingDesk x = seated(60, 1, "from 0 rate 3 60; from 0 late " + n[0] + " 100");
            x.cancel(0, n[1]);
            Due.is("24: late " + n[0] + ", cancelled " + n[1] + " ahead", x.fee(0, 0), n[2]);
        }
    }

    /** "JOURNEYS by 10, downwards, times way" */
    private static void journeysByTen() {
        int[][] trips = {{0, 0}, {4, 0}, {5, 1}, {9, 1}, {10, 2}, {14, 2}, {300, 60}};
        for (int[] n : trips) {
            HearingDesk x = desk();
            x.way(0, 1, n[0]);
            x.hearing(0, 0, 0, 60, 1, 1, 3);
            x.plan(0, false);
            Due.is("24: without way, " + n[0], x.fee(0, 0), 0);
            Due.fees(x, "from 0 way 100");
            Due.is("24: way 100, " + n[0], x.fee(0, 0), 100 * n[1]);
            Due.fees(x, "from 0 way 1; from 0 rate 3 60");
            Due.is("24: way 1 and rate, " + n[0], x.fee(0, 0), 60 + n[1]);
            Due.is("24: another's, " + n[0], x.fee(1, 0), 0);
        }
    }

    /** "and, if there is one that is not CANCELLED, JOURNEYS": of those that are not */
    private static void journeysOfOneNotCancelled() {
        HearingDesk x = desk();
        x.way(0, 1, 50);
        x.way(0, 2, 20);
        x.way(1, 2, 100);
        x.hearing(0, 0, 0, 60, 1, 1, 3);
        x.hearing(0, 0, 300, 60, 2, 1, 3);
        x.bar(1, 0, true);
        x.plan(0, false);
        Due.fees(x, "from 0 way 2; from 0 rate 3 60; from 0 late 10 50");
        Due.is("24: both", x.fee(0, 0), 60 + 60 + 2 * 17);
        x.cancel(0, 9);
        Due.is("24: one is cancelled", x.fee(0, 0), 30 + 60 + 2 * 4);
        x.cancel(1, 10);
        Due.is("24: both are", x.fee(0, 0), 30);
    }

    /** "of a CANCELLED one (SEATS as they were then)" */
    private static void seatsAsTheyWereThen() {
        HearingDesk x = seated(60, 1, "from 0 rate 3 60; from 0 late 10 100");
        x.hearing(0, 0, 500, 60, 0, 1, 3);
        x.cancel(0, 0);
        x.cancel(1, 0);
        x.bar(0, 0, true);
        x.plan(0, false);
        Due.is("24: who sat then", x.fee(0, 0), 60);
        Due.is("24: who would sit now", x.fee(1, 0), 0);
    }

    /** "for each HEARING of it in whose SEATS he is": by the DAY it is on now, and by the text of that DAY */
    private static void feeOfItsDay() {
        HearingDesk x = seated(60, 1, "from 0 rate 3 60; from 10 rate 3 90; from 10 least 120");
        Due.is("24: on day 0", x.fee(0, 0), 60);
        x.move(0, 9, 0);
        Due.is("24: no more on day 0", x.fee(0, 0), 0);
        Due.is("24: on day 9", x.fee(0, 9), 60);
        x.move(0, 10, 0);
        Due.is("24: on day 10", x.fee(0, 10), 180);
        x.move(0, 999, 0);
        Due.is("24: on day 999", x.fee(0, 999), 180);
        Due.fees(x, "from 0 rate 3 120");
        Due.is("24: by another text", x.fee(0, 999), 120);
    }

    /** "On a DAY of each KIND": the FEE is by the CLAUSES of that DAY, to the DAY */
    private static void eachKindOfItsDay() {
        String rate = "from 0 rate 3 60; from 0 late 1000 100; ";
        String[] kinds = {"from 10 rate 3 120", "from 10 least 200", "from 10 pair 50", "from 10 way 1", "from 10 late 500 100",
            "from 10 late 1000 50"};
        long[] then = {200, 200, 50, 112, 100, 100};
        long[] cancelled = {200, 200, 50, 100, 0, 50};
        for (int i = 0; i < kinds.length; i++) {
            HearingDesk x = desk();
            x.hearing(0, 9, 0, 100, 1, 1, 3);
            x.hearing(0, 10, 0, 100, 1, 1, 3);
            x.plan(9, false);
            x.plan(10, false);
            Due.is("22: " + kinds[i], Due.fees(x, rate + kinds[i]), 0);
            Due.is("24: on 9, " + kinds[i], x.fee(0, 9), 100);
            Due.is("24: on 10, " + kinds[i], x.fee(0, 10), then[i]);
            x.cancel(0, 500);
            x.cancel(1, 500);
            Due.is("24: cancelled on 9, " + kinds[i], x.fee(0, 9), 100);
            Due.is("24: cancelled on 10, " + kinds[i], x.fee(0, 10), cancelled[i]);
        }
        HearingDesk x = seated(60, 2, rate + "from 10 relay 50");
        x.move(0, 9, 0);
        Due.is("24: relay on 9", x.fee(3, 9), 60);
        x.move(0, 10, 0);
        Due.is("24: relay on 10", x.fee(3, 10), 30);
    }

    /** "FEE of a PERSON on a DAY; NONE without such" */
    private static void feeOfNone() {
        HearingDesk x = seated(60, 1, "from 0 rate 3 60");
        Due.is("24: the last person", x.fee(3, 0), 0);
        Due.is("24: no person 4", x.fee(4, 0), NONE);
        Due.is("24: no person -1", x.fee(-1, 0), NONE);
        Due.is("24: no day -1", x.fee(0, -1), NONE);
        Due.is("24: no day 1000", x.fee(0, 1000), NONE);
        Due.is("24: a day without hearings", x.fee(0, 999), 0);
    }
}
