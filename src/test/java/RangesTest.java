import java.util.ArrayList;
import java.util.List;

/**
 * Of each call each argument's range: the least and the greatest are taken, the first below and above are refused with the
 * exception that the document names, and change nothing. Where two exceptions apply, the one that is listed first comes.
 */
public final class RangesTest {
    private static final Due due = new Due();
    private static final Sides sides = new Sides(due);
    private static final int NONE = KeyringCourt.NONE;
    private static final Sides.Maker NEW = KeyringCourt::new, BUSY = Courts::busy, OPEN = Courts::open, SIGNED_OUT = Courts::signedOut;
    private static final Sides.Maker LATE = Courts::late, NO_MORE_TOKENS = () -> Courts.withTokens(200);

    /** An argument: a flag, or a number of a range with the exception that comes outside it. */
    private static final class Range {
        private final String exception;
        private final int least;
        private final int most;

        private Range(String word) {
            exception = word.charAt(0) == 'i' ? Calls.INDEX : word.charAt(0) == 'a' ? Calls.ARGUMENT : null;
            String[] ends = exception == null ? new String[] {"0", "0"} : word.substring(1).split("to");
            least = Integer.parseInt(ends[0]);
            most = Integer.parseInt(ends[1]);
        }

        private boolean isFlag() {
            return exception == null;
        }

        private int[] outside() {
            return new int[] {least - 1, most + 1, Integer.MIN_VALUE, Integer.MAX_VALUE};
        }
    }

    private final String name;
    private final List<Range> ranges = new ArrayList<>();
    private final Sides.Maker maker;
    private final Object[] right;

    private RangesTest(String name, String words, Sides.Maker maker, Object... right) {
        this.name = name;
        this.maker = maker;
        this.right = right;
        for (String word : words.split(" ")) {
            ranges.add(new Range(word));
        }
    }

    public static void main(String[] args) {
        factorsAndFlows();
        riskAndAttempts();
        sessions();
        consentAndTokens();
        keysAndServices();
        recoveryAndLeaving();
        audit();
        steps();
        due.end("RangesTest");
    }

    private static RangesTest of(String name, String words, Sides.Maker maker, Object... right) {
        return new RangesTest(name, words, maker, right);
    }

    /** Both sides of each range where the call is taken else. */
    private RangesTest taken() {
        sides.taken("in range", maker, name, right);
        for (int i = 0; i < ranges.size(); i++) {
            if (!ranges.get(i).isFlag()) {
                sides.taken("least", maker, name, with(i, ranges.get(i).least));
                sides.taken("greatest", maker, name, with(i, ranges.get(i).most));
            }
        }
        outside(maker);
        return this;
    }

    /** Outside its ranges the call comes to the same exceptions where it is refused with an IllegalStateException else. */
    private void aheadOfState(Sides.Maker refusing) {
        sides.refused("in range", refusing, Calls.STATE, name, right);
        outside(refusing);
    }

    private void outside(Sides.Maker where) {
        for (int i = 0; i < ranges.size(); i++) {
            for (int value : ranges.get(i).outside()) {
                if (!ranges.get(i).isFlag()) {
                    sides.refused("out of range", where, ranges.get(i).exception, name, with(i, value));
                }
            }
            for (int j = i + 1; j < ranges.size(); j++) {
                if (!ranges.get(i).isFlag() && !ranges.get(j).isFlag()) {
                    Object[] values = with(i, ranges.get(i).most + 1);
                    values[j] = ranges.get(j).least - 1;
                    sides.refused("two out of range", where, first(ranges.get(i), ranges.get(j)), name, values);
                }
            }
        }
    }

    private static String first(Range one, Range other) {
        return one.exception.equals(Calls.INDEX) ? Calls.INDEX : other.exception;
    }

    private Object[] with(int index, int value) {
        Object[] values = right.clone();
        values[index] = value;
        return values;
    }

    private static void factorsAndFlows() {
        of("pass", "a1to600", BUSY, 10).taken().aheadOfState(LATE);
        of("enroll", "i0to5 a0to2", BUSY, 0, 0).taken();
        of("factor", "i0to5 a0to2", BUSY, 0, 0).taken();
        of("weakest", "i0to1", BUSY, 0).taken();
        sides.refused("no version", NEW, Calls.INDEX, "weakest", 0);
    }

    private static void riskAndAttempts() {
        of("points", "a0to2 a0to5 flag", BUSY, 0, 3, false).taken();
        of("points", "a0to2 a-1to5 flag", BUSY, 0, 3, true).taken();
        of("begin", "i0to5 i0to5 i0to5", BUSY, 0, 0, 0).taken().aheadOfState(NEW);
        of("answer", "i0to1 flag a0to9999", BUSY, 0, true, 7).taken().aheadOfState(RangesTest::withDeniedAttempts);
        for (String look : new String[] {"state", "asked", "sessionOf", "risk", "trialRisk"}) {
            of(look, "i0to1", BUSY, 0).taken();
            sides.refused("no attempt", OPEN, Calls.INDEX, look, 0);
        }
        sides.refused("no attempt", OPEN, Calls.INDEX, "answer", 0, true, 0);
    }

    private static KeyringCourt withDeniedAttempts() {
        KeyringCourt court = Courts.busy();
        court.answer(0, false, 0);
        court.answer(1, false, 0);
        return court;
    }

    private static void sessions() {
        for (String look : new String[] {"isLive", "isLiveByAudit", "level"}) {
            of(look, "i0to2", BUSY, 0).taken();
            sides.refused("no session", OPEN, Calls.INDEX, look, 0);
        }
        of("stepUp", "i0to2 a0to2 flag a0to9999", BUSY, 0, 0, true, 7).taken().aheadOfState(SIGNED_OUT);
        of("stepUp", "i0to2 a0to2 flag a0to9999", BUSY, 0, 2, false, 7).taken();
        of("signOut", "i0to2", BUSY, 0).taken().aheadOfState(SIGNED_OUT);
        of("helper", "i0to5", BUSY, 0).taken();
        of("act", "i0to2 i0to5", BUSY, 1, 0).taken().aheadOfState(SIGNED_OUT);
    }

    private static void consentAndTokens() {
        of("consent", "i-1to5 i0to3 a0to15", BUSY, 0, 0, 1).taken();
        of("consent", "i-1to5 i0to3 a0to15", BUSY, NONE, 3, 1).taken();
        of("withdraw", "i0to5 i0to3", BUSY, 0, 0).taken();
        of("need", "i0to3 a0to6", BUSY, 0, 3).taken();
        of("authorize", "i0to2 i0to3 i0to3 a1to15", BUSY, 0, 1, 2, 7).taken().aheadOfState(SIGNED_OUT);
        of("redeem", "i0to3", BUSY, 0).taken();
        of("redeem", "i0to1", NO_MORE_TOKENS, 1).aheadOfState(NO_MORE_TOKENS);
        of("refresh", "i0to1 a0to1", BUSY, 0, 0).taken();
        of("refresh", "i0to0 a0to199", NO_MORE_TOKENS, 0, 199).aheadOfState(NO_MORE_TOKENS);
        of("isGood", "i0to1", BUSY, 0).taken();
        of("tokenOf", "i0to1", BUSY, 0).taken();
        of("exchange", "i0to3 i0to3 a1to15", BUSY, 0, 1, 7).taken().aheadOfState(SIGNED_OUT);
        of("token", "i0to3", BUSY, 0).taken();
        sides.refused("no code", OPEN, Calls.INDEX, "redeem", 0);
        sides.refused("no family", OPEN, Calls.INDEX, "isGood", 0);
        sides.refused("no family", OPEN, Calls.INDEX, "tokenOf", 0);
        sides.refused("no family", OPEN, Calls.INDEX, "refresh", 0, 0);
        sides.refused("no token", OPEN, Calls.INDEX, "token", 0);
        sides.refused("no token", OPEN, Calls.INDEX, "exchange", 0, 0, 1);
    }

    private static void keysAndServices() {
        of("isPublished", "i0to1", BUSY, 0).taken();
        of("isPublished", "i0to0", OPEN, 0).taken();
        of("line", "i0to3", BUSY, 0).taken();
        of("check", "i0to3 i0to3 a0to3", BUSY, 2, 0, 1).taken();
        of("check", "i0to3 i0to3 a0to3", BUSY, 1, 0, 1).taken();
        of("check", "i0to3 i0to3 a0to3", RangesTest::withOldCaches, 2, 0, 1).taken();
        of("check", "i0to3 i0to3 a0to3", LATE, 2, 0, 1).taken();
        of("lag", "i0to3", BUSY, 0).taken();
        sides.refused("no token", OPEN, Calls.INDEX, "check", 0, 0, 0);
        sides.refused("no token", OPEN, Calls.INDEX, "lag", 0);
    }

    /** The caches were fetched 17 minutes ago, the tokens are good still. */
    private static KeyringCourt withOldCaches() {
        KeyringCourt court = Courts.busy();
        court.pass(7);
        return court;
    }

    private static void recoveryAndLeaving() {
        of("recover", "i0to5", OPEN, 0).taken().aheadOfState(RangesTest::withAllAway);
        of("vouch", "i0to1 i0to2", BUSY, 0, 0).aheadOfState(SIGNED_OUT);
        sides.taken("least", BUSY, "vouch", 0, 0);
        sides.taken("greatest", BUSY, "vouch", 1, 2);
        of("stop", "i0to1 i0to3", RangesTest::stoppable, 0, 2).outside(RangesTest::stoppable);
        sides.taken("least recovery, greatest session", RangesTest::stoppable, "stop", 0, 3);
        sides.taken("greatest recovery, least session", RangesTest::stoppable, "stop", 1, 0);
        of("stop", "i0to1 i0to2", BUSY, 0, 0).aheadOfState(SIGNED_OUT);
        of("finish", "i0to1", RangesTest::finishable, 0).taken().aheadOfState(BUSY);
        of("link", "i0to5 i-1to5", BUSY, 4, NONE).taken();
        of("link", "i0to5 i-1to5", BUSY, 1, 0).aheadOfState(BUSY);
        of("foreign", "i0to5", RangesTest::linked, 2).taken().aheadOfState(OPEN);
        of("leave", "i0to5", BUSY, 0).taken();
        sides.refused("no recovery", OPEN, Calls.INDEX, "finish", 0);
        sides.refused("no recovery", () -> Courts.withSessions(1), Calls.INDEX, "vouch", 0, 0);
        sides.refused("no recovery", () -> Courts.withSessions(1), Calls.INDEX, "stop", 0, 0);
        sides.refused("no session", RangesTest::recovering, Calls.INDEX, "vouch", 0, 0);
        sides.refused("no session", RangesTest::recovering, Calls.INDEX, "stop", 0, 0);
    }

    private static KeyringCourt withAllAway() {
        KeyringCourt court = Courts.open();
        for (int person = 0; person < 6; person++) {
            court.leave(person);
        }
        return court;
    }

    private static KeyringCourt linked() {
        KeyringCourt court = Courts.open();
        for (int account = 0; account < 6; account++) {
            court.link(account, 5 - account);
        }
        return court;
    }

    private static KeyringCourt recovering() {
        KeyringCourt court = Courts.open();
        court.recover(0);
        return court;
    }

    /** The sessions 0 and 1 are of the person 1, the others of the person 0; the recovery 0 is for 0, and 1 for 1. */
    private static KeyringCourt stoppable() {
        KeyringCourt court = Courts.open();
        court.recover(0);
        court.recover(1);
        for (int i = 0; i < 4; i++) {
            Courts.signIn(court, i < 2 ? 1 : 0);
        }
        return court;
    }

    private static KeyringCourt finishable() {
        KeyringCourt court = Courts.busy();
        for (int recovery = 0; recovery < 2; recovery++) {
            court.vouch(recovery, 2);
        }
        court.pass(60);
        return court;
    }

    private static void audit() {
        int last = Courts.busy().audits() - 1;
        of("audit", "i0to" + last, BUSY, 0).taken();
        of("sumAnew", "i0to" + (last + 1), BUSY, 0).taken();
        of("sumAnew", "i0to0", OPEN, 0).taken();
        sides.refused("no entry", OPEN, Calls.INDEX, "audit", 0);
    }

    /** Of each kind of step the greatest a, the least and the greatest b. */
    private static final int[][] STEPS = {{2, 1, 3}, {0, 0, 0}, {20, 0, 0}, {2, 0, 0}, {6, 0, 0}, {0, 0, 0}, {0, 0, 0}};

    private static void steps() {
        for (int kind = KeyringCourt.ASK; kind <= KeyringCourt.DENY; kind++) {
            String ranges = "a0to" + STEPS[kind][0] + " a" + STEPS[kind][1] + "to" + STEPS[kind][2];
            stepOf(kind, ranges);
        }
        for (int kind : new int[] {-1, 7, Integer.MIN_VALUE, Integer.MAX_VALUE}) {
            sides.refused("no such kind", BUSY, Calls.ARGUMENT, "step", kind, 0, 0, 0, 0);
            sides.refused("no such kind", RangesTest::withFullDraft, Calls.ARGUMENT, "step", kind, 0, 0, 0, 0);
        }
    }

    private static void stepOf(int kind, String ranges) {
        int b = STEPS[kind][1];
        String kindOnly = "a" + kind + "to" + kind;
        Sides.Maker full = RangesTest::withFullDraft;
        if (kind < KeyringCourt.GRANT) {
            RangesTest test = of("step", kindOnly + " " + ranges + " a-1to11 a-1to11", BUSY, kind, 0, b, 0, 0);
            test.takenButKind();
            sides.refused("in range", full, Calls.STATE, "step", kind, 0, b, 0, 0);
            test.outsideButKind(full);
            return;
        }
        of("step", kindOnly + " " + ranges + " flag flag", BUSY, kind, 0, b, 0, 0).takenButKind();
        for (int next : new int[] {-2, 12, Integer.MIN_VALUE, Integer.MAX_VALUE}) {
            sides.answers("yes does not matter", BUSY, 1, "step", kind, 0, b, next, 0);
            sides.answers("no does not matter", BUSY, 1, "step", kind, 0, b, 0, next);
            sides.refused("in range", full, Calls.STATE, "step", kind, 0, b, next, next);
        }
    }

    private void takenButKind() {
        for (int i = 1; i < ranges.size(); i++) {
            if (!ranges.get(i).isFlag()) {
                sides.answers("least", maker, 1, name, with(i, ranges.get(i).least));
                sides.answers("greatest", maker, 1, name, with(i, ranges.get(i).most));
            }
        }
        outsideButKind(maker);
    }

    private void outsideButKind(Sides.Maker where) {
        for (int i = 1; i < ranges.size(); i++) {
            for (int value : ranges.get(i).outside()) {
                if (!ranges.get(i).isFlag()) {
                    sides.refused("out of range", where, Calls.ARGUMENT, name, with(i, value));
                }
            }
        }
    }

    private static KeyringCourt withFullDraft() {
        KeyringCourt court = Courts.busy();
        for (int i = 1; i < 12; i++) {
            court.step(KeyringCourt.DENY, 0, 0, NONE, NONE);
        }
        return court;
    }
}
