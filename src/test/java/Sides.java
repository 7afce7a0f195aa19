import java.util.HashMap;
import java.util.Map;

/** Both sides of a boundary: a call that is taken, and one that is refused and by that changes nothing. */
final class Sides {
    /** Makes the same court each time. */
    interface Maker {
        KeyringCourt court();
    }

    private final Due due;
    private final Map<Maker, String[]> unspoilt = new HashMap<>();

    Sides(Due due) {
        this.due = due;
    }

    void answers(String what, Maker maker, long want, String name, Object... values) {
        answers(what, maker, String.valueOf(want), name, values);
    }

    void answers(String what, Maker maker, boolean want, String name, Object... values) {
        answers(what, maker, String.valueOf(want), name, values);
    }

    private void answers(String what, Maker maker, String want, String name, Object... values) {
        String got = Calls.play(maker.court(), name, values);
        due.yes(told(what, name, values) + " answered " + got + ", due is " + want, got.equals(want));
    }

    void taken(String what, Maker maker, String name, Object... values) {
        String got = Calls.play(maker.court(), name, values);
        due.no(told(what, name, values) + " answered " + got + ", due is an answer", Calls.isThrown(got));
    }

    void refused(String what, Maker maker, String want, String name, Object... values) {
        KeyringCourt court = maker.court();
        String got = Calls.play(court, name, values);
        due.yes(told(what, name, values) + " answered " + got + ", due is " + want, got.equals(want));
        String[] before = unspoilt.computeIfAbsent(maker, Sides::probes);
        for (int way = 0; way < Probe.WAYS; way++) {
            String after = Probe.of(court, way);
            if (!after.equals(before[way])) {
                due.fail(told(what, name, values) + " threw, but changed something:\n" + before[way] + "\n" + after);
                return;
            }
            court = maker.court();
            Calls.play(court, name, values);
        }
    }

    private static String[] probes(Maker maker) {
        String[] texts = new String[Probe.WAYS];
        for (int way = 0; way < Probe.WAYS; way++) {
            texts[way] = Probe.of(maker.court(), way);
        }
        return texts;
    }

    private static String told(String what, String name, Object[] values) {
        return what + ": " + name + java.util.Arrays.toString(values);
    }
}
