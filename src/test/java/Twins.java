import java.util.List;
import java.util.function.Supplier;

/** Two desks made alike: one gets a call that changes nothing, and both must answer alike to all that follows. */
final class Twins {
    interface Call {
        long on(HearingDesk x);
    }

    private Twins() {
    }

    /** The call answers what is due and leaves the desk as it was: one that is refused, or one that only looks. */
    static void unchanged(String label, Supplier<HearingDesk> make, Call call, long due) {
        HearingDesk tried = make.get();
        Due.is(label, call.on(tried), due);
        List<String> seen = Looks.at(tried);
        List<String> want = Looks.at(make.get());
        Due.is(label + ": looks", seen.size() <= Looks.MOST && seen.size() == want.size(), true);
        for (int i = 0; i < want.size(); i++) {
            boolean isAlike = seen.get(i).equals(want.get(i));
            Due.is(label + ", then " + seen.get(i) + " for: " + want.get(i), isAlike, true);
        }
    }

    /** The call is not refused. */
    static void taken(String label, Supplier<HearingDesk> make, Call call, long refusal) {
        Due.is(label + " is refused", call.on(make.get()) == refusal, false);
    }

    static long bit(boolean is) {
        return is ? 1 : 0;
    }
}
