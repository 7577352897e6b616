/** Promises 25 to 29: who was asked, what was said, when it was known, and the counts. */
public final class AskedTest {
    private static final int NONE = HearingDesk.NONE;

    public static void main(String[] args) {
        asks();
        manyAsked();
        answers();
        known();
        refusals();
        counts();
        Due.end();
    }

    private static void asks() {
        HearingDesk x = Desks.twoAndTwo();
        Due.is("25: no hearing", x.ask(2, 0, 5), NONE);
        Due.is("25: no hearing -1", x.ask(-1, 0, 5), NONE);
        Due.is("25: no person", x.ask(0, 2, 5), NONE);
        Due.is("25: no person -1", x.ask(0, -1, 5), NONE);
        Due.is("25: no day", x.ask(0, 0, 1000), NONE);
        Due.is("25: no day -1", x.ask(0, 0, -1), NONE);
        Due.is("25: none came", x.count(4), 0);
        Due.is("25: the first", x.ask(0, 1, 5), 0);
        Due.is("25: a day ahead", x.ask(0, 1, 4), NONE);
        Due.is("25: the same day", x.ask(0, 1, 5), 1);
        x.cancel(1, 0);
        Due.is("25: for a cancelled one", x.ask(1, 0, 999), 2);
        Due.is("25: ahead of the latest", x.ask(1, 0, 998), NONE);
        Due.is("25: three", x.count(4), 3);
    }

    private static void manyAsked() {
        HearingDesk x = Desks.twoAndTwo();
        for (int i = 0; i < 60; i++) {
            Due.is("25: asked " + i, x.ask(i % 2, i / 2 % 2, i), i);
        }
        Due.is("25: a 61st", x.ask(0, 0, 100), NONE);
        Due.is("25: sixty", x.count(4), 60);
        Due.is("26: the last", x.answer(59, 59, false, 9), true);
        Due.is("27: the last", x.known(59, 59, 2), 59);
        Due.is("28: the last", x.refusals(1, 59), 1);
    }

    private static void answers() {
        HearingDesk x = Desks.twoAndTwo();
        x.ask(0, 0, 5);
        x.ask(0, 0, 5);
        Due.is("26: none such", x.answer(2, 5, true, 0), false);
        Due.is("26: none such -1", x.answer(-1, 5, true, 0), false);
        Due.is("26: ahead of the asking", x.answer(0, 4, true, 0), false);
        Due.is("26: day 1000", x.answer(0, 1000, true, 0), false);
        Due.is("26: why 10", x.answer(0, 5, true, 10), false);
        Due.is("26: why -1", x.answer(0, 5, true, -1), false);
        Due.is("26: nothing happened", x.known(0, 999, 3), NONE);
        Due.is("26: the same day", x.answer(0, 5, true, 9), true);
        Due.is("26: already", x.answer(0, 6, false, 1), false);
        Due.is("26: the first answer stays", x.known(0, 999, 3), 1);
        Due.is("26: its why too", x.known(0, 999, 4), 9);
        Due.is("26: the last day", x.answer(1, 999, false, 0), true);
    }

    private static void known() {
        HearingDesk x = Desks.twoAndTwo();
        x.ask(1, 0, 5);
        x.answer(0, 8, false, 3);
        x.ask(0, 1, 6);
        x.answer(1, 6, true, 0);
        int[] asked = {1, 0, 5, NONE, NONE};
        int[] answered = {1, 0, 5, 0, 3};
        int[] yes = {0, 1, 6, 1, 0};
        for (int what = 0; what < 5; what++) {
            Due.is("27: not asked yet, " + what, x.known(0, 4, what), NONE);
            Due.is("27: asked, " + what, x.known(0, 5, what), asked[what]);
            Due.is("27: not answered yet, " + what, x.known(0, 7, what), asked[what]);
            Due.is("27: answered, " + what, x.known(0, 8, what), answered[what]);
            Due.is("27: long ago, " + what, x.known(0, 999, what), answered[what]);
            Due.is("27: yes, " + what, x.known(1, 6, what), yes[what]);
            Due.is("27: no day, " + what, x.known(0, 1000, what), NONE);
            Due.is("27: no day -1, " + what, x.known(0, -1, what), NONE);
            Due.is("27: none such, " + what, x.known(2, 999, what), NONE);
            Due.is("27: none such -1, " + what, x.known(-1, 999, what), NONE);
        }
        Due.is("27: another what", x.known(0, 8, 5), NONE);
        Due.is("27: another what -1", x.known(0, 8, -1), NONE);
    }

    private static void refusals() {
        HearingDesk x = Desks.twoAndTwo();
        Due.is("28: none asked", x.refusals(NONE, 0), 0);
        x.ask(0, 0, 1);
        x.ask(0, 1, 2);
        x.ask(1, 0, 2);
        x.ask(1, 1, 3);
        x.answer(0, 5, false, 1);
        x.answer(1, 4, true, 1);
        x.answer(2, 6, false, 1);
        Due.is("28: not known yet", x.refusals(0, 4), 0);
        Due.is("28: known", x.refusals(0, 5), 1);
        Due.is("28: of the other", x.refusals(1, 5), 0);
        Due.is("28: of the other, known", x.refusals(1, 6), 1);
        Due.is("28: all, one known", x.refusals(NONE, 5), 1);
        Due.is("28: all", x.refusals(NONE, 999), 2);
        Due.is("28: no hearing", x.refusals(2, 999), NONE);
        Due.is("28: no hearing -2", x.refusals(-2, 999), NONE);
        Due.is("28: no day", x.refusals(0, 1000), NONE);
        Due.is("28: no day -1", x.refusals(NONE, -1), NONE);
    }

    private static void counts() {
        HearingDesk x = Desks.twoAndTwo();
        x.paper(0, 1, 1, 0, 0);
        x.paper(0, 1, 1, 0, 0);
        x.paper(0, 1, 1, 0, 0);
        x.cancel(0, 0);
        x.ask(0, 0, 0);
        Due.fees(x, "from 0 way 1; from 0 way 2");
        x.feed(0, 0, 0, 0, 0);
        x.rest(77);
        int[] want = {2, 3, 2, 1, 1, 20, 2, 77};
        for (int what = 0; what < want.length; what++) {
            Due.is("29: " + what, x.count(what), want[what]);
        }
        Due.is("29: 8", x.count(8), NONE);
        Due.is("29: -1", x.count(-1), NONE);
    }
}
