import java.util.ArrayList;
import java.util.List;

/** What a desk answers to calls that look at every part of it: a line for each call. It is of no use behind them. */
final class Looks {
    /** With the calls that make one of the Desks, these stay below the 512 that an object is used for. */
    static final int MOST = 310;

    private static final int[] DAYS = {0, 999};
    private final HearingDesk x;
    private final List<String> lines = new ArrayList<>();

    private Looks(HearingDesk x) {
        this.x = x;
    }

    static List<String> at(HearingDesk x) {
        Looks looks = new Looks(x);
        looks.counts();
        looks.hearings();
        looks.persons();
        looks.text();
        looks.asked();
        looks.tape();
        looks.plansAnew();
        looks.comings();
        looks.waysAndBars();
        return looks.lines;
    }

    private void see(String call, long answer) {
        lines.add(call + " answers " + answer);
    }

    private void counts() {
        for (int what = 0; what < 8; what++) {
            see("count " + what, x.count(what));
        }
        planned();
    }

    private void planned() {
        for (int what = 0; what < 4; what++) {
            see("planned " + what, x.planned(what));
        }
    }

    private void hearings() {
        for (int h = 0; h < 24; h++) {
            see("teams of " + h, x.teams(h));
        }
        seats(24);
        see("turn of 1 at 0", x.turn(1, 0));
        see("turn of 1 at 30", x.turn(1, 30));
    }

    private void seats(int hearings) {
        for (int h = 0; h < hearings; h++) {
            see("first seat of " + h, x.seat(h, 0));
            see("second seat of " + h, x.seat(h, 1));
        }
    }

    private void persons() {
        for (int p = 0; p < 5; p++) {
            for (int t = 0; t < 10; t++) {
                see("grade of " + p + " in " + t + " on 15", x.grade(p, t, 15));
                see("grade of " + p + " in " + t + " on 999", x.grade(p, t, 999));
            }
            for (int day : DAYS) {
                see("journeys of " + p + " on " + day, x.journeys(p, day));
                see("fee of " + p + " on " + day, x.fee(p, day));
            }
        }
    }

    private void text() {
        for (int day : DAYS) {
            for (int what = 0; what < 11; what++) {
                int shown = what < 6 ? what : what + 5;
                see("tells " + shown + " on " + day, x.tells(day, shown));
            }
        }
    }

    private void asked() {
        for (int what = 0; what < 5; what++) {
            see("known of 0, what " + what, x.known(0, 999, what));
            see("known of 1, what " + what, x.known(1, 999, what));
            see("known of 59, what " + what, x.known(59, 999, what));
        }
        see("refusals", x.refusals(HearingDesk.NONE, 999));
    }

    private void tape() {
        see("fees", x.fees());
        see("clauses", x.count(6));
        see("way by the tape", x.tells(0, 1));
    }

    private void plansAnew() {
        for (int day : DAYS) {
            see("plan of " + day, x.plan(day, true));
            planned();
        }
        seats(4);
    }

    private void comings() {
        see("a person more", x.person(2));
        see("a paper more", x.paper(0, 8, 1, 0, 999));
        see("a hearing more", x.hearing(0, 777, 0, 60, 0, 1, 1));
        see("an asked more", x.ask(0, 0, 100));
    }

    private void waysAndBars() {
        for (int a = 0; a < 6; a++) {
            for (int b = a + 1; b < 6; b++) {
                see("way from " + a + " to " + b, x.way(b, a, 1));
            }
        }
        for (int p = 0; p < 5; p++) {
            see("bar of " + p + " from 0", x.bar(p, 0, true) ? 1 : 0);
            see("bar of " + p + " from 7", x.bar(p, 7, true) ? 1 : 0);
            see("bar of " + p + " from 19", x.bar(p, 19, true) ? 1 : 0);
        }
    }
}
