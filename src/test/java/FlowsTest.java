/** Promises 5 to 8: step, clear, publish, weakest. */
public final class FlowsTest {
    private static final Due due = new Due();
    private static final int NONE = KeyringCourt.NONE;
    private static final int ASK = KeyringCourt.ASK, KNOWN = KeyringCourt.KNOWN, RISKY = KeyringCourt.RISKY, HAS = KeyringCourt.HAS;
    private static final int AT_LEAST = KeyringCourt.AT_LEAST, GRANT = KeyringCourt.GRANT, DENY = KeyringCourt.DENY;

    public static void main(String[] args) {
        stepRanges();
        stepFull();
        clearing();
        publishing();
        loopsOfTests();
        mostVersions();
        weakestOfAsks();
        weakestOfTests();
        weakestOfLoops();
        due.end("FlowsTest");
    }

    private static void stepRanges() {
        KeyringCourt x = new KeyringCourt();
        int[][] wrong = {
            {-1, 0, 0, 0, 0}, {7, 0, 0, 0, 0}, {Integer.MIN_VALUE, 0, 0, 0, 0},
            {ASK, -1, 1, 0, 0}, {ASK, 3, 1, 0, 0}, {ASK, 0, 0, 0, 0}, {ASK, 0, 4, 0, 0},
            {ASK, 0, 1, 12, 0}, {ASK, 0, 1, 0, 12}, {ASK, 0, 1, -2, 0}, {ASK, 0, 1, 0, -2},
            {KNOWN, 1, 0, 0, 0}, {KNOWN, -1, 0, 0, 0}, {KNOWN, 0, 1, 0, 0}, {KNOWN, 0, 0, 12, 0}, {KNOWN, 0, 0, 0, -2},
            {RISKY, 21, 0, 0, 0}, {RISKY, -1, 0, 0, 0}, {RISKY, 0, 1, 0, 0},
            {HAS, 3, 0, 0, 0}, {HAS, -1, 0, 0, 0}, {HAS, 0, 1, 0, 0},
            {AT_LEAST, 7, 0, 0, 0}, {AT_LEAST, -1, 0, 0, 0}, {AT_LEAST, 0, 1, 0, 0},
            {GRANT, 1, 0, 0, 0}, {GRANT, 0, 1, 0, 0}, {DENY, 1, 0, 0, 0}, {DENY, 0, -1, 0, 0},
        };
        for (int[] w : wrong) {
            due.argument("5: step " + java.util.Arrays.toString(w), x, () -> x.step(w[0], w[1], w[2], w[3], w[4]));
        }
        due.is("5: no step was added", 0, x.clear());
        int[][] right = {
            {ASK, 0, 1, 0, 11}, {ASK, 2, 3, NONE, NONE}, {KNOWN, 0, 0, 11, NONE}, {RISKY, 0, 0, 0, 0}, {RISKY, 20, 0, 0, 0},
            {HAS, 2, 0, 0, 0}, {AT_LEAST, 0, 0, 0, 0}, {AT_LEAST, 6, 0, 0, 0}, {GRANT, 0, 0, 99, -99}, {DENY, 0, 0, Integer.MIN_VALUE, Integer.MAX_VALUE},
        };
        for (int i = 0; i < right.length; i++) {
            int[] r = right[i];
            due.is("5: step " + java.util.Arrays.toString(r), i, x.step(r[0], r[1], r[2], r[3], r[4]));
        }
    }

    private static void stepFull() {
        KeyringCourt x = new KeyringCourt();
        for (int i = 0; i < 12; i++) {
            due.is("5: its number", i, x.step(DENY, 0, 0, NONE, NONE));
        }
        due.state("5: the draft has 12", x, () -> x.step(DENY, 0, 0, NONE, NONE));
        due.argument("5: out of range comes first", x, () -> x.step(DENY, 1, 0, NONE, NONE));
        due.is("5: it has 12 still", 12, x.clear());
    }

    private static void clearing() {
        KeyringCourt x = new KeyringCourt();
        x.step(DENY, 0, 0, NONE, NONE);
        x.step(GRANT, 0, 0, NONE, NONE);
        due.is("6: two steps", 2, x.clear());
        due.is("6: none", 0, x.clear());
        due.is("6: numbers from 0 again", 0, x.step(GRANT, 0, 0, NONE, NONE));
        x.publish();
        due.is("6: published, the draft is empty", 0, x.clear());
        due.is("6: the version stays", 0, x.weakest(0));
    }

    private static void publishing() {
        KeyringCourt x = new KeyringCourt();
        due.state("7: no steps", x, () -> x.publish());
        x.step(ASK, 0, 1, 1, NONE);
        due.state("7: no next step for yes of an ASK", x, () -> x.publish());
        x.step(GRANT, 0, 0, 11, 11);
        due.is("7: number 0; next steps of a GRANT do not matter", 0, x.publish());
        x.step(ASK, 0, 1, NONE, 1);
        due.state("7: no next step for no of an ASK", x, () -> x.publish());
        due.is("7: the draft stays when refused", 1, x.clear());
        x.step(RISKY, 3, 0, 1, NONE);
        due.state("7: no next step for yes of a test", x, () -> x.publish());
        x.clear();
        x.step(AT_LEAST, 3, 0, NONE, 11);
        due.state("7: no next step for no of a test", x, () -> x.publish());
        x.step(DENY, 0, 0, 11, 11);
        due.state("7: not there all the same", x, () -> x.publish());
        x.clear();
        x.step(DENY, 0, 0, 11, 11);
        due.is("7: number 1", 1, x.publish());
        due.is("7: a version is not changed by another", 1, x.weakest(0));
        due.is("7: DENY alone", NONE, x.weakest(1));
    }

    private static void loopsOfTests() {
        KeyringCourt x = new KeyringCourt();
        for (int kind = KNOWN; kind <= AT_LEAST; kind++) {
            int test = kind;
            x.step(test, 0, 0, NONE, 0);
            due.state("7: a test " + test + " that is its own no", x, () -> x.publish());
            x.clear();
            x.step(test, 0, 0, 0, NONE);
            due.state("7: a test " + test + " that is its own yes", x, () -> x.publish());
            x.clear();
        }
        x.step(GRANT, 0, 0, NONE, NONE);
        x.step(KNOWN, 0, 0, 2, 0);
        x.step(RISKY, 1, 0, 0, 3);
        x.step(HAS, 1, 0, 1, 0);
        due.state("7: a loop of three, that one cannot come to", x, () -> x.publish());
        x.clear();
        x.step(KNOWN, 0, 0, 1, 1);
        x.step(RISKY, 1, 0, 2, 3);
        x.step(ASK, 0, 1, 0, 2);
        x.step(HAS, 1, 0, 2, 4);
        x.step(AT_LEAST, 1, 0, 5, 2);
        x.step(GRANT, 0, 0, NONE, NONE);
        due.is("7: a loop through an ASK, and ways that meet again", 0, x.publish());
        for (int i = 0; i < 11; i++) {
            x.step(KNOWN, 0, 0, i + 1, i + 1);
        }
        x.step(KNOWN, 0, 0, NONE, NONE);
        due.is("7: a row of 12 tests", 1, x.publish());
        for (int i = 0; i < 11; i++) {
            x.step(KNOWN, 0, 0, i + 1, NONE);
        }
        x.step(KNOWN, 0, 0, NONE, 0);
        due.state("7: a loop of 12 tests", x, () -> x.publish());
    }

    private static void mostVersions() {
        KeyringCourt x = new KeyringCourt();
        for (int i = 0; i < 8; i++) {
            x.step(DENY, 0, 0, NONE, NONE);
            due.is("7: its number", i, x.publish());
        }
        x.step(DENY, 0, 0, NONE, NONE);
        due.state("7: there are 8 versions", x, () -> x.publish());
        due.is("7: the draft stays", 1, x.clear());
        due.is("6: no steps any more, and the versions stay", 0, x.clear());
        due.is("8: the version 7", NONE, x.weakest(7));
        due.index("8: the version 8", x, () -> x.weakest(8));
        due.index("8: the version -1", x, () -> x.weakest(-1));
    }

    private static int weakestOf(int[]... steps) {
        KeyringCourt x = new KeyringCourt();
        for (int[] s : steps) {
            x.step(s[0], s[1], s[2], s[3], s[4]);
        }
        x.publish();
        return x.weakest(0);
    }

    private static void weakestOfAsks() {
        int[] grant = {GRANT, 0, 0, NONE, NONE};
        due.is("8: GRANT alone", 0, weakestOf(grant));
        due.is("8: PASSWORD", 1, weakestOf(new int[] {ASK, 0, 1, 1, NONE}, grant));
        due.is("8: CODE", 2, weakestOf(new int[] {ASK, 1, 1, 1, NONE}, grant));
        due.is("8: STICK", 3, weakestOf(new int[] {ASK, 2, 1, 1, NONE}, grant));
        due.is("8: an answer may be wrong", 0, weakestOf(new int[] {ASK, 2, 3, NONE, 1}, grant));
        due.is("8: all factors", 6, weakestOf(new int[] {ASK, 2, 1, 1, NONE}, new int[] {ASK, 1, 1, 2, NONE}, new int[] {ASK, 0, 1, 3, NONE}, grant));
        due.is("8: the same factor twice", 2, weakestOf(new int[] {ASK, 1, 1, 1, NONE}, new int[] {ASK, 1, 1, 2, NONE}, grant));
        due.is("8: STICK, or CODE when it is wrong", 2, weakestOf(new int[] {ASK, 2, 1, 2, 1}, new int[] {ASK, 1, 1, 2, NONE}, grant));
        due.is("8: right once, then wrong", 2, weakestOf(new int[] {ASK, 1, 1, 1, NONE}, new int[] {ASK, 1, 1, NONE, 2}, grant));
        due.is("8: the better way is not the weakest", 1, weakestOf(new int[] {ASK, 2, 1, 2, 1}, new int[] {ASK, 0, 1, 2, NONE}, grant));
        due.is("8: the first GRANT or the second", 1, weakestOf(new int[] {ASK, 2, 1, 2, 1}, new int[] {ASK, 0, 1, 3, NONE}, grant, grant));
        due.is("8: a GRANT that one cannot come to", NONE, weakestOf(new int[] {ASK, 0, 1, NONE, NONE}, grant));
    }

    private static void weakestOfTests() {
        int[] grant = {GRANT, 0, 0, NONE, NONE};
        int[] stick = {ASK, 2, 1, 3, NONE};
        int[] code = {ASK, 1, 1, 3, NONE};
        int[] twoWays = {2, 3};
        for (int kind = KNOWN; kind <= HAS; kind++) {
            due.is("8: a test " + kind + " may hold or not", twoWays[0], weakestOf(new int[] {kind, 0, 0, 1, 2}, stick, code, grant));
            due.is("8: a test " + kind + " the other way", twoWays[0], weakestOf(new int[] {kind, 0, 0, 2, 1}, stick, code, grant));
        }
        due.is("8: AT_LEAST goes by what was shown", 3, weakestOf(new int[] {ASK, 2, 1, 2, 1}, new int[] {ASK, 1, 1, 2, NONE}, new int[] {AT_LEAST, 3, 0, 3, NONE}, grant));
        due.is("8: AT_LEAST 2 holds at 2", 2, weakestOf(new int[] {ASK, 2, 1, 2, 1}, new int[] {ASK, 1, 1, 2, NONE}, new int[] {AT_LEAST, 2, 0, 3, NONE}, grant));
        due.is("8: AT_LEAST 3 denied for yes", 2, weakestOf(new int[] {ASK, 2, 1, 2, 1}, new int[] {ASK, 1, 1, 2, NONE}, new int[] {AT_LEAST, 3, 0, NONE, 3}, grant));
        due.is("8: AT_LEAST 2 with 3 shown, denied for yes", NONE, weakestOf(new int[] {ASK, 2, 1, 1, NONE}, new int[] {AT_LEAST, 2, 0, NONE, 2}, grant));
        due.is("8: AT_LEAST 0 always holds", NONE, weakestOf(new int[] {AT_LEAST, 0, 0, NONE, 1}, grant));
        due.is("8: AT_LEAST 1 with nothing shown", NONE, weakestOf(new int[] {AT_LEAST, 1, 0, 1, NONE}, grant));
        for (int kind = KNOWN; kind <= HAS; kind++) {
            due.is("8: a test " + kind + " twice, each time anew", 0, weakestOf(new int[] {kind, 0, 0, 1, NONE}, new int[] {kind, 0, 0, NONE, 2}, grant));
        }
        due.is("8: RISKY 0 may hold or not", 0, weakestOf(new int[] {RISKY, 0, 0, NONE, 1}, grant));
        due.is("8: RISKY 20 may hold or not", 0, weakestOf(new int[] {RISKY, 20, 0, 1, NONE}, grant));
        due.is("8: what was shown may be ready or not", 3, weakestOf(new int[] {ASK, 2, 1, 1, NONE}, new int[] {HAS, 2, 0, NONE, 2}, grant));
        due.is("8: what was answered wrong may be ready", 0, weakestOf(new int[] {ASK, 2, 1, NONE, 1}, new int[] {HAS, 2, 0, 2, NONE}, grant));
        due.is("8: what was not asked for is not shown by being ready", 0, weakestOf(new int[] {HAS, 2, 0, 1, NONE}, grant));
    }

    /** From the step 11 down to the test of the level, and by an ASK for the next factor back to the step 11. */
    private static final int[][] ROUNDS = {
        {KNOWN, 0, 0, 11, 11}, {ASK, 2, 1, 11, NONE}, {ASK, 1, 1, 11, NONE}, {ASK, 0, 1, 11, NONE}, {GRANT, 0, 0, NONE, NONE},
        {AT_LEAST, 6, 0, 4, 1}, {AT_LEAST, 3, 0, 5, 2}, {AT_LEAST, 1, 0, 6, 3},
        {KNOWN, 0, 0, 7, 7}, {KNOWN, 0, 0, 8, 8}, {KNOWN, 0, 0, 9, 9}, {KNOWN, 0, 0, 10, 10},
    };

    private static void weakestOfLoops() {
        int[] grant = {GRANT, 0, 0, NONE, NONE};
        int[] again = {AT_LEAST, 6, 0, 4, 0};
        int[] password = {ASK, 0, 3, 3, 1};
        int[] code = {ASK, 1, 3, 3, 2};
        int[] stick = {ASK, 2, 3, 3, 0};
        due.is("8: round till all are shown", 6, weakestOf(password, code, stick, again, grant));
        due.is("8: PASSWORD and CODE are 3 as well as STICK", 3, weakestOf(password, code, stick, new int[] {AT_LEAST, 3, 0, 4, 0}, grant));
        due.is("8: only STICK or PASSWORD, at least 2", 3, weakestOf(password, new int[] {ASK, 2, 3, 3, 0}, stick, new int[] {AT_LEAST, 2, 0, 4, 0}, grant));
        due.is("8: only STICK or PASSWORD, at least 4", 4, weakestOf(password, new int[] {ASK, 2, 3, 3, 0}, stick, new int[] {AT_LEAST, 4, 0, 4, 0}, grant));
        due.is("8: round and round, for one factor more each time", 6, weakestOf(ROUNDS));
        due.is("8: a loop that never grants", NONE, weakestOf(new int[] {ASK, 0, 1, 0, 0}, grant));
    }
}
