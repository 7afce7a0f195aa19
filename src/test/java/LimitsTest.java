/** Each limit of the document: what is just below it is taken, what is at it is refused, or comes out otherwise. */
public final class LimitsTest {
    private static final Due due = new Due();
    private static final Sides sides = new Sides(due);
    private static final int NONE = KeyringCourt.NONE, LOW = KeyringCourt.LOW, UNASKED = KeyringCourt.UNASKED;
    private static final int ASK = KeyringCourt.ASK, KNOWN = KeyringCourt.KNOWN, RISKY = KeyringCourt.RISKY;
    private static final int AT_LEAST = KeyringCourt.AT_LEAST, GRANT = KeyringCourt.GRANT, DENY = KeyringCourt.DENY;
    private static final int PASSWORD = KeyringCourt.PASSWORD, CODE = KeyringCourt.CODE, STICK = KeyringCourt.STICK;
    private static final int READY = KeyringCourt.READY, SUSPENDED = KeyringCourt.SUSPENDED;
    private static final int ASKING = KeyringCourt.ASKING, GRANTED = KeyringCourt.GRANTED, DENIED = KeyringCourt.DENIED;

    public static void main(String[] args) {
        minute30000();
        twelveSteps();
        eightVersions();
        weakestLevels();
        answersAside();
        devicesAndPlaces();
        sixtyAttempts();
        oneToThreeTimes();
        twelveAnswers();
        fiveWrongsInARow();
        countersOfASTICK();
        threeWrongsOfARisk();
        threeWrongsOfEachPerson();
        greatestRisk();
        numbersOfTests();
        sixtySessions();
        sixtyCodes();
        twoHundredTokens();
        threeWhoActed();
        twentyKeys();
        twentyRecoveries();
        levelsNeeded();
        levelsToActAndVouch();
        twoWhoVouched();
        numbersOfTokens();
        numbersOfSuspendedFactors();
        sumModulo();
        due.end("LimitsTest");
    }

    // ---- time, factors, flows

    private static KeyringCourt at(int minute) {
        KeyringCourt x = new KeyringCourt();
        Courts.repeat(minute / 600, () -> x.pass(600));
        Courts.repeat(minute % 600 == 0 ? 0 : 1, () -> x.pass(minute % 600));
        return x;
    }

    private static void minute30000() {
        sides.answers("2: to the minute 30000", () -> at(29999), 0, "pass", 1);
        sides.answers("2: to the minute 30000 at one go", () -> at(29400), 0, "pass", 600);
        sides.refused("2: above it", () -> at(29401), Calls.STATE, "pass", 600);
        sides.refused("2: above it by much", () -> at(30000), Calls.STATE, "pass", 600);
        sides.refused("2: above it by one", () -> at(30000), Calls.STATE, "pass", 1);
        KeyringCourt x = at(30000);
        due.is("36: it is the minute 30000", 1, x.emergency());
        due.is("51: its entry tells", (31 * 7 + 501 + 30000) % 65521, x.sum());
        KeyringCourt y = at(29999);
        due.state("2: refused, no minute passes", y, () -> y.pass(2));
        y.emergency();
        due.is("51: it is the minute 29999 still", (31 * 7 + 501 + 29999) % 65521, y.sum());
    }

    private static KeyringCourt withSteps(int count) {
        KeyringCourt x = new KeyringCourt();
        for (int i = 0; i < count - 1; i++) {
            x.step(KNOWN, 0, 0, count - 1, i + 1);
        }
        x.step(GRANT, 0, 0, NONE, NONE);
        return x;
    }

    private static void twelveSteps() {
        sides.answers("5: the 12th step", () -> withSteps(11), 11, "step", DENY, 0, 0, 0, 0);
        sides.refused("5: the draft has 12", () -> withSteps(12), Calls.STATE, "step", DENY, 0, 0, 0, 0);
        sides.answers("6: it had 12", () -> withSteps(12), 12, "clear");
        KeyringCourt x = withSteps(12);
        due.is("7: 12 steps are published", 0, x.publish());
        due.is("5: then the draft is empty", 0, x.step(GRANT, 0, 0, NONE, NONE));
        x.begin(0, 0, 0);
        due.is("10: through 11 tests in a row", GRANTED, x.state(0));
        due.is("8: through 11 tests in a row", 0, x.weakest(0));
    }

    private static KeyringCourt withVersions(int count) {
        KeyringCourt x = new KeyringCourt();
        for (int i = 0; i < count; i++) {
            x.step(GRANT, 0, 0, NONE, NONE);
            x.publish();
        }
        x.step(DENY, 0, 0, NONE, NONE);
        return x;
    }

    private static void eightVersions() {
        sides.answers("7: the 8th version", () -> withVersions(7), 7, "publish");
        sides.refused("7: there are 8", () -> withVersions(8), Calls.STATE, "publish");
        sides.answers("7: refused, the draft stays", () -> withVersions(8), 1, "clear");
        sides.answers("8: the last version", () -> withVersions(8), 0, "weakest", 7);
        sides.refused("8: the one behind it", () -> withVersions(8), Calls.INDEX, "weakest", 8);
    }

    private static void weakestLevels() {
        for (int level = 0; level <= 6; level++) {
            int[] factors = FACTORS_OF_LEVELS[level];
            KeyringCourt x = new KeyringCourt();
            for (int i = 0; i < factors.length; i++) {
                x.step(ASK, factors[i], 1, i + 1, NONE);
            }
            x.step(GRANT, 0, 0, NONE, NONE);
            x.publish();
            due.is("8: all these are asked for", level, x.weakest(0));
        }
        KeyringCourt x = new KeyringCourt();
        x.step(DENY, 0, 0, NONE, NONE);
        x.publish();
        due.is("8: no GRANT", NONE, x.weakest(0));
    }

    /** So many steps that ask three times each, one behind the other by no; the last one goes to GRANT. */
    private static KeyringCourt askingOnAndOn(int steps) {
        KeyringCourt x = new KeyringCourt();
        for (int i = 0; i < steps; i++) {
            x.step(ASK, PASSWORD, 3, NONE, i + 1);
        }
        x.step(GRANT, 0, 0, NONE, NONE);
        x.publish();
        x.begin(0, 0, 0);
        Courts.repeat(11, () -> x.answer(0, false, 0));
        return x;
    }

    private static void answersAside() {
        sides.answers("11: GRANT behind 12 answers", () -> askingOnAndOn(4), GRANTED, "answer", 0, false, 0);
        sides.answers("11: GRANT behind 15 answers", () -> askingOnAndOn(5), DENIED, "answer", 0, false, 0);
        sides.answers("8: GRANT behind 12 answers", () -> askingOnAndOn(4), 0, "weakest", 0);
        sides.answers("8: GRANT behind 15 answers, the 12 aside", () -> askingOnAndOn(5), 0, "weakest", 0);
        sides.answers("8: GRANT behind 33 answers, the 12 aside", () -> askingOnAndOn(11), 0, "weakest", 0);
    }

    // ---- attempts

    private static void devicesAndPlaces() {
        for (int known = 0; known < 6; known++) {
            KeyringCourt x = Courts.open();
            x.begin(known, known, 5 - known);
            x.step(KNOWN, 0, 0, NONE, NONE);
            x.publish();
            for (int i = 0; i < 6; i++) {
                int device = x.begin(known, i, 5 - known);
                due.is("15: the device " + i + ", where " + known + " is known", i == known ? 0 : 2, x.risk(device));
                int place = x.begin(known, known, 5 - i);
                due.is("15: the place " + (5 - i) + ", where " + (5 - known) + " is known", i == known ? 0 : 1, x.risk(place));
                int other = x.begin(i, known, 5 - known);
                due.is("15: the person " + i + ", where it is known for " + known, i == known ? 0 : 3, x.risk(other));
            }
        }
    }

    private static KeyringCourt withAttempts(int count) {
        KeyringCourt x = Courts.testing(KNOWN, 0);
        Courts.repeat(count, () -> x.begin(0, 0, 0));
        return x;
    }

    private static void sixtyAttempts() {
        sides.answers("10: the 60th attempt", () -> withAttempts(59), 59, "begin", 5, 5, 5);
        sides.refused("10: there are 60", () -> withAttempts(60), Calls.STATE, "begin", 5, 5, 5);
        sides.answers("12: the last one", () -> withAttempts(60), DENIED, "state", 59);
        sides.refused("12: the one behind it", () -> withAttempts(60), Calls.INDEX, "state", 60);
    }

    private static KeyringCourt askedAndWrong(int times, int wrongs) {
        KeyringCourt x = Courts.asking(CODE, times);
        x.enroll(0, CODE);
        x.begin(0, 0, 0);
        Courts.repeat(wrongs, () -> x.answer(0, false, 0));
        return x;
    }

    private static void oneToThreeTimes() {
        for (int times = 1; times <= 3; times++) {
            for (int wrongs = 0; wrongs < times; wrongs++) {
                int most = times;
                int before = wrongs;
                Sides.Maker maker = () -> askedAndWrong(most, before);
                sides.answers("11: wrong " + (wrongs + 1) + " of " + times, maker, wrongs + 1 < times ? ASKING : DENIED, "answer", 0, false, 0);
                sides.answers("11: right the last time", maker, GRANTED, "answer", 0, true, 0);
            }
        }
    }

    /** An attempt with so many right answers, that asks on after a right one, is granted after a wrong one. */
    private static KeyringCourt withAnswers(int count) {
        KeyringCourt x = new KeyringCourt();
        x.step(ASK, PASSWORD, 1, 0, 1);
        x.step(GRANT, 0, 0, NONE, NONE);
        x.publish();
        x.enroll(0, PASSWORD);
        x.begin(0, 0, 0);
        Courts.repeat(count, () -> x.answer(0, true, 0));
        return x;
    }

    private static void twelveAnswers() {
        sides.answers("11: the 11th answer", () -> withAnswers(10), ASKING, "answer", 0, true, 0);
        sides.answers("11: the 12th one, and ASKING still", () -> withAnswers(11), DENIED, "answer", 0, true, 0);
        sides.answers("11: the 12th one may grant", () -> withAnswers(11), GRANTED, "answer", 0, false, 0);
        sides.answers("13: with 11 it asks", () -> withAnswers(11), PASSWORD, "asked", 0);
        sides.answers("13: with 12 it does not", () -> withAnswers(12), NONE, "asked", 0);
        sides.refused("11: a 13th one", () -> withAnswers(12), Calls.STATE, "answer", 0, false, 0);
        KeyringCourt x = new KeyringCourt();
        x.step(ASK, PASSWORD, 3, NONE, 0);
        x.publish();
        x.begin(0, 0, 0);
        for (int i = 1; i <= 12; i++) {
            due.is("11: wrong answers count, too: " + i, i < 12 ? ASKING : DENIED, x.answer(0, false, 0));
        }
    }

    private static KeyringCourt withWrongs(int factor, int count) {
        KeyringCourt x = Courts.open();
        int session = Courts.signIn(x, 0);
        x.enroll(0, factor);
        Courts.repeat(count, () -> x.stepUp(session, factor, false, 0));
        return x;
    }

    private static void fiveWrongsInARow() {
        for (int factor = PASSWORD; factor <= STICK; factor++) {
            int of = factor;
            sides.answers("3: four in a row", () -> withWrongs(of, 4), READY, "factor", 0, factor);
            sides.answers("3: five in a row", () -> withWrongs(of, 5), SUSPENDED, "factor", 0, factor);
            sides.answers("3: four in a row, then right", () -> withWrongs(of, 4), factor + 1, "stepUp", 0, factor, true, 1);
            sides.answers("3: five in a row, then right", () -> withWrongs(of, 5), 0, "stepUp", 0, factor, true, 1);
            sides.answers("49: four are no entry", () -> withWrongs(of, 4), 1, "audits");
            sides.answers("49: the fifth is one", () -> withWrongs(of, 5), 4000 + factor, "audit", 1);
            sides.answers("49: the sixth is none", () -> withWrongs(of, 6), 2, "audits");
        }
    }

    private static KeyringCourt withCounter(int counter) {
        KeyringCourt x = Courts.open();
        int session = Courts.signIn(x, 0);
        x.enroll(0, STICK);
        Courts.repeat(counter == 0 ? 0 : 1, () -> x.stepUp(session, STICK, true, counter));
        x.pass(121);
        Courts.signIn(x, 0);
        return x;
    }

    private static void countersOfASTICK() {
        for (int counter : new int[] {0, 1, 5000, 9998}) {
            Sides.Maker maker = () -> withCounter(counter);
            sides.answers("3: a counter greater by 1", maker, 3, "stepUp", 1, STICK, true, counter + 1);
            sides.answers("3: the greatest one", maker, 3, "stepUp", 1, STICK, true, 9999);
            sides.answers("3: not greater", maker, 0, "stepUp", 1, STICK, true, counter);
            sides.answers("3: the least one", maker, 0, "stepUp", 1, STICK, true, 0);
        }
        sides.answers("3: none is greater than 9999", () -> withCounter(9999), 0, "stepUp", 1, STICK, true, 9999);
        KeyringCourt x = withCounter(7);
        x.stepUp(1, STICK, true, 7);
        due.is("3: a clone is suspended", SUSPENDED, x.factor(0, STICK));
        KeyringCourt y = withCounter(7);
        y.stepUp(1, STICK, false, 7);
        due.is("3: a wrong answer is no clone", READY, y.factor(0, STICK));
        due.is("3: nor does its counter stay", 3, y.stepUp(1, STICK, true, 8));
        KeyringCourt z = withCounter(7);
        z.stepUp(1, STICK, true, 3);
        z.enroll(0, STICK);
        due.is("3: enrolled, the counter is 0", 3, z.stepUp(1, STICK, true, 1));
    }

    private static KeyringCourt withRisk(int wrongs) {
        KeyringCourt x = Courts.asking(PASSWORD, 3);
        x.points(KeyringCourt.WRONGS, 5, false);
        x.points(KeyringCourt.WRONGS, 4, true);
        Courts.signIn(x, 0);
        x.begin(0, 0, 0);
        Courts.repeat(wrongs, () -> x.stepUp(0, PASSWORD, true, 0));
        return x;
    }

    private static void threeWrongsOfARisk() {
        for (int wrongs = 0; wrongs <= 5; wrongs++) {
            int count = wrongs;
            sides.answers("15: " + wrongs + " wrong answers", () -> withRisk(count), 3 + 5 * Math.min(3, wrongs), "risk", 0);
            sides.answers("16: " + wrongs + " wrong answers", () -> withRisk(count), 3 + 4 * Math.min(3, wrongs), "trialRisk", 0);
        }
    }

    private static void threeWrongsOfEachPerson() {
        KeyringCourt x = Courts.asking(PASSWORD, 3);
        for (int person = 0; person < 6; person++) {
            x.begin(person, person, person);
        }
        for (int wrongs = 1; wrongs <= 2; wrongs++) {
            for (int person = 0; person < 6; person++) {
                x.answer(person, false, 0);
                for (int other = 0; other < 6; other++) {
                    int count = other <= person ? wrongs : wrongs - 1;
                    due.is("15: " + count + " wrong answers of " + other, 3 + count, x.risk(other));
                }
            }
        }
    }

    private static void greatestRisk() {
        KeyringCourt x = withRisk(3);
        for (int rule = 0; rule < 3; rule++) {
            x.points(rule, 5, false);
            x.points(rule, 5, true);
        }
        due.is("15: the greatest risk", 25, x.risk(0));
        due.is("16: the greatest trial risk", 25, x.trialRisk(0));
        for (int rule = 0; rule < 3; rule++) {
            x.points(rule, 0, false);
        }
        due.is("15: the least risk", 0, x.risk(0));
        due.is("16: the trial risk does not go by that", 25, x.trialRisk(0));
        for (int rule = 0; rule < 3; rule++) {
            x.points(rule, NONE, true);
        }
        due.is("16: the least trial risk", 0, x.trialRisk(0));
    }

    private static void numbersOfTests() {
        for (int number = 0; number <= 20; number++) {
            int least = number;
            sides.answers("10: RISKY at a risk of 3, at least " + number, () -> begun(RISKY, least), number <= 3 ? GRANTED : DENIED, "state", 0);
        }
        for (int level = 0; level <= 6; level++) {
            int least = level;
            sides.answers("10: AT_LEAST " + level + " with nothing shown", () -> begun(AT_LEAST, least), level == 0 ? GRANTED : DENIED, "state", 0);
            sides.answers("11: AT_LEAST " + level + " with CODE and STICK shown", () -> shownCodeAndStick(least), level <= 5 ? GRANTED : DENIED, "answer", 0, true, 1);
        }
        KeyringCourt x = Courts.testing(RISKY, 20);
        for (int rule = 0; rule < 3; rule++) {
            x.points(rule, rule == 1 ? 4 : 5, false);
        }
        Courts.signIn(x, 0);
        Courts.repeat(2, () -> x.stepUp(0, PASSWORD, true, 0));
        x.begin(0, 0, 0);
        due.is("10: RISKY 20 at a risk of 19", DENIED, x.state(0));
        x.points(1, 5, false);
        x.begin(0, 0, 0);
        due.is("10: RISKY 20 at a risk of 20", GRANTED, x.state(1));
    }

    private static KeyringCourt begun(int kind, int number) {
        KeyringCourt x = Courts.testing(kind, number);
        x.begin(0, 0, 0);
        return x;
    }

    private static KeyringCourt shownCodeAndStick(int level) {
        KeyringCourt x = new KeyringCourt();
        x.step(ASK, CODE, 1, 1, NONE);
        x.step(ASK, STICK, 1, 2, NONE);
        x.step(AT_LEAST, level, 0, 3, NONE);
        x.step(GRANT, 0, 0, NONE, NONE);
        x.publish();
        x.enroll(0, CODE);
        x.enroll(0, STICK);
        x.begin(0, 0, 0);
        x.answer(0, true, 0);
        return x;
    }

    // ---- sessions

    /** An attempt of the person 1 asks for a PASSWORD, the session 0 is of a helper, and there are so many sessions. */
    private static KeyringCourt crowded(int count) {
        KeyringCourt x = Courts.asking(PASSWORD, 1);
        x.enroll(1, PASSWORD);
        x.begin(1, 0, 0);
        int session = Courts.signIn(x, 0, STICK);
        x.helper(0);
        Courts.repeat(count - 1, () -> x.foreign(0));
        x.signOut(count - 1);
        return x;
    }

    private static KeyringCourt crowdedAndOpen(int count) {
        KeyringCourt x = crowded(count);
        x.step(GRANT, 0, 0, NONE, NONE);
        x.publish();
        return x;
    }

    private static void sixtySessions() {
        sides.answers("11: the 60th session", () -> crowded(59), GRANTED, "answer", 0, true, 0);
        sides.answers("11: there are 60, ended ones included", () -> crowded(60), DENIED, "answer", 0, true, 0);
        sides.answers("24: the 60th session", () -> crowded(59), 59, "act", 0, 1);
        sides.refused("24: there are 60", () -> crowded(60), Calls.STATE, "act", 0, 1);
        sides.answers("47: the 60th session", () -> crowded(59), 59, "foreign", 0);
        sides.refused("47: there are 60", () -> crowded(60), Calls.STATE, "foreign", 0);
        sides.answers("17: 60 sessions", () -> crowded(60), 60, "sessions");
        sides.answers("18: the last one", () -> crowded(60), false, "isLive", 59);
        sides.refused("18: the one behind it", () -> crowded(60), Calls.INDEX, "isLive", 60);
        KeyringCourt x = crowdedAndOpen(59);
        due.is("10: the 60th session, by a flow that grants at once", GRANTED, x.state(x.begin(2, 3, 4)));
        due.is("14: its number", 59, x.sessionOf(1));
        due.is("15: device and place are known", 0, x.risk(1));
        KeyringCourt y = crowdedAndOpen(60);
        int entries = y.audits();
        due.is("10: DENIED instead", DENIED, y.state(y.begin(2, 3, 4)));
        due.is("14: no session", NONE, y.sessionOf(1));
        due.is("15: nothing is known by that", 3, y.risk(1));
        due.is("49: nothing has begun", entries, y.audits());
    }

    // ---- codes, tokens

    private static KeyringCourt withCodes(int count) {
        KeyringCourt x = Courts.open();
        int session = Courts.signIn(x, 0);
        x.consent(0, 0, 15);
        Courts.repeat(count, () -> x.authorize(session, 0, 0, 1));
        x.need(1, 6);
        x.pass(3);
        return x;
    }

    private static void sixtyCodes() {
        sides.answers("28: the 60th code", () -> withCodes(59), 59, "authorize", 0, 0, 0, 15);
        sides.answers("28: UNASKED with 59", () -> withCodes(59), UNASKED, "authorize", 0, 1, 0, 15);
        sides.answers("28: LOW with 59", () -> withCodes(59), LOW, "authorize", 0, 0, 1, 15);
        sides.refused("28: there are 60", () -> withCodes(60), Calls.STATE, "authorize", 0, 0, 0, 15);
        sides.refused("28: there are 60, whatever would have come", () -> withCodes(60), Calls.STATE, "authorize", 0, 1, 0, 15);
        sides.refused("28: there are 60, whatever would have come", () -> withCodes(60), Calls.STATE, "authorize", 0, 0, 1, 15);
        sides.answers("29: the last code", () -> withCodes(60), 0, "redeem", 59);
        sides.refused("29: the one behind it", () -> withCodes(60), Calls.INDEX, "redeem", 60);
    }

    private static void twoHundredTokens() {
        Sides.Maker below = () -> Courts.withTokens(199);
        Sides.Maker full = () -> Courts.withTokens(200);
        sides.answers("29: the 200th token", below, 1, "redeem", 1);
        sides.refused("29: there are 200", full, Calls.STATE, "redeem", 1);
        sides.answers("29: one redeemed again makes none", full, NONE, "redeem", 0);
        sides.answers("30: the 200th token", below, 199, "refresh", 0, 198);
        sides.refused("30: there are 200", full, Calls.STATE, "refresh", 0, 199);
        sides.answers("30: two tabs make none", full, 199, "refresh", 0, 198);
        sides.answers("30: a stolen one makes none", full, NONE, "refresh", 0, 197);
        sides.answers("33: the 200th token", below, 199, "exchange", 0, 1, 1);
        sides.refused("33: there are 200", full, Calls.STATE, "exchange", 0, 1, 1);
        sides.answers("33: LOW with 199", () -> needing(199), LOW, "exchange", 0, 1, 1);
        sides.refused("33: there are 200, whatever would have come", () -> needing(200), Calls.STATE, "exchange", 0, 1, 1);
        sides.answers("34: the last token", full, 10000, "token", 199);
        sides.refused("34: the one behind it", full, Calls.INDEX, "token", 200);
        sides.answers("32: the last token", full, 199, "tokenOf", 0);
        KeyringCourt x = Courts.withTokens(200);
        x.signOut(0);
        due.is("29: its session is not live, so it would make none", NONE, x.redeem(1));
        due.is("30: not good, so it would make none", NONE, x.refresh(0, 199));
        KeyringCourt y = Courts.withTokens(200);
        y.pass(6);
        due.is("29: 6 minutes behind, so it would make none", NONE, y.redeem(1));
    }

    private static KeyringCourt needing(int tokens) {
        KeyringCourt x = Courts.withTokens(tokens);
        x.need(1, 1);
        return x;
    }

    /** The token of that number is of a row of exchanges, each of the one before. */
    private static KeyringCourt exchanged(int times) {
        KeyringCourt x = Courts.open();
        Courts.family(x, Courts.signIn(x, 0), 1, 2);
        for (int i = 0; i < times; i++) {
            x.exchange(i, i, 15);
        }
        return x;
    }

    private static void threeWhoActed() {
        sides.answers("34: none has acted", () -> exchanged(0), 10120, "token", 0);
        sides.answers("33: one has acted then", () -> exchanged(0), 1, "exchange", 0, 3, 15);
        sides.answers("34: one has acted", () -> exchanged(1), 10201, "token", 1);
        sides.answers("33: two have acted", () -> exchanged(2), 3, "exchange", 2, 3, 15);
        sides.answers("34: three have acted", () -> exchanged(3), 10123, "token", 3);
        sides.refused("33: three have acted", () -> exchanged(3), Calls.STATE, "exchange", 3, 3, 15);
        sides.answers("33: on the first one none has", () -> exchanged(3), 4, "exchange", 0, 3, 15);
    }

    // ---- keys, recoveries

    private static KeyringCourt withKeys(int count, boolean isWaiting) {
        KeyringCourt x = new KeyringCourt();
        Courts.repeat(count - (isWaiting ? 2 : 1), () -> x.emergency());
        Courts.repeat(isWaiting ? 1 : 0, () -> x.turn());
        return x;
    }

    private static void twentyKeys() {
        sides.answers("35: the 20th key", () -> withKeys(19, false), 19, "turn");
        sides.refused("35: there are 20", () -> withKeys(20, false), Calls.STATE, "turn");
        sides.refused("35: a key waits, of 19", () -> withKeys(19, true), Calls.STATE, "turn");
        sides.answers("36: the 20th key", () -> withKeys(19, false), 19, "emergency");
        sides.refused("36: none waits, and there are 20", () -> withKeys(20, false), Calls.STATE, "emergency");
        sides.answers("36: the 20th waits", () -> withKeys(20, true), 19, "emergency");
        sides.answers("38: the last key", () -> withKeys(20, true), true, "isPublished", 19);
        sides.refused("38: the one behind it", () -> withKeys(20, true), Calls.INDEX, "isPublished", 20);
        sides.answers("37: the key that signs", () -> withKeys(20, true), 18, "signing");
    }

    private static KeyringCourt withRecoveries(int count) {
        KeyringCourt x = Courts.open();
        int session = Courts.signIn(x, 0);
        for (int i = 0; i < count; i++) {
            x.recover(0);
            x.stop(i, session);
        }
        return x;
    }

    private static void twentyRecoveries() {
        sides.answers("42: the 20th recovery", () -> withRecoveries(19), 19, "recover", 5);
        sides.refused("42: there are 20", () -> withRecoveries(20), Calls.STATE, "recover", 5);
        KeyringCourt x = withRecoveries(14);
        for (int person = 0; person < 6; person++) {
            due.is("42: one of each person, however many there are", 14 + person, x.recover(person));
        }
        due.state("42: there are 20", x, () -> x.recover(0));
        sides.refused("44: the last one is not open", () -> withRecoveries(20), Calls.STATE, "stop", 19, 0);
        sides.refused("44: the one behind it", () -> withRecoveries(20), Calls.INDEX, "stop", 20, 0);
    }

    // ---- levels

    /** A session of CODE and a family of it; the audience 3 needs that level. */
    private static KeyringCourt withNeed(int level) {
        KeyringCourt x = Courts.open();
        Courts.family(x, Courts.signIn(x, 0, CODE), 1, 2);
        x.need(3, level);
        return x;
    }

    private static void levelsNeeded() {
        for (int level = 0; level <= 6; level++) {
            int needed = level;
            sides.answers("28: 2 of " + level, () -> withNeed(needed), level <= 2 ? 1 : LOW, "authorize", 0, 1, 3, 1);
            sides.answers("33: 2 of " + level, () -> withNeed(needed), level <= 2 ? 1 : LOW, "exchange", 0, 3, 1);
        }
    }

    private static final int[][] FACTORS_OF_LEVELS = {{}, {PASSWORD}, {CODE}, {STICK}, {PASSWORD, STICK}, {CODE, STICK}, {PASSWORD, CODE, STICK}};

    private static KeyringCourt withHelper(int... factors) {
        KeyringCourt x = Courts.open();
        Courts.signIn(x, 0, factors);
        x.helper(0);
        x.recover(1);
        return x;
    }

    private static void levelsToActAndVouch() {
        for (int level = 0; level <= 6; level++) {
            int[] factors = FACTORS_OF_LEVELS[level];
            Sides.Maker maker = () -> withHelper(factors);
            sides.answers("20: the level of these", maker, level, "level", 0);
            if (level < 3) {
                sides.refused("24: a level below 3", maker, Calls.STATE, "act", 0, 1);
                sides.refused("43: a level below 3", maker, Calls.STATE, "vouch", 0, 0);
            } else {
                sides.answers("24: a level of at least 3", maker, 1, "act", 0, 1);
                sides.answers("43: a level of at least 3", maker, level, "vouch", 0, 0);
            }
        }
        sides.answers("43: PASSWORD and CODE, too", () -> withHelper(PASSWORD, CODE), 3, "vouch", 0, 0);
    }

    /** Somebody with these factors, and so many who have vouched with a STICK, 60 minutes behind the beginning. */
    private static KeyringCourt withVouchers(int count, int... factors) {
        KeyringCourt x = Courts.open();
        Courts.signIn(x, 0, factors);
        x.recover(0);
        x.pass(30);
        for (int i = 1; i <= count; i++) {
            x.vouch(0, Courts.signIn(x, i, STICK));
        }
        x.pass(30);
        return x;
    }

    private static void twoWhoVouched() {
        for (int level = 0; level <= 6; level++) {
            int[] factors = FACTORS_OF_LEVELS[level];
            sides.refused("45: none has vouched", () -> withVouchers(0, factors), Calls.STATE, "finish", 0);
            sides.refused("45: one has vouched, though with a level of 3", () -> withVouchers(1, factors), Calls.STATE, "finish", 0);
            sides.answers("45: two have vouched, with 6 together", () -> withVouchers(2, factors), 0, "finish", 0);
            sides.answers("45: three have vouched, with 9 together", () -> withVouchers(3, factors), 0, "finish", 0);
        }
    }

    // ---- audit

    private static void numbersOfTokens() {
        for (int client = 0; client < 4; client++) {
            for (int audience = 0; audience < 4; audience++) {
                KeyringCourt x = at(29990);
                x.step(GRANT, 0, 0, NONE, NONE);
                x.publish();
                Courts.family(x, Courts.signIn(x, 0), client, audience);
                due.is("34: of these", 30000000 + 100 * client + 10 * audience, x.token(0));
                x.exchange(0, client, 1);
                due.is("34: exchanged", 30000000 + 100 * audience + 10 * client + 1, x.token(1));
            }
        }
    }

    private static void numbersOfSuspendedFactors() {
        for (int person = 0; person < 6; person++) {
            for (int factor = 0; factor < 3; factor++) {
                KeyringCourt x = Courts.open();
                int session = Courts.signIn(x, person, factor);
                int of = factor;
                Courts.repeat(5, () -> x.stepUp(session, of, false, 0));
                due.is("50: a factor that is suspended", 4000 + 3 * person + factor, x.audit(1));
                due.is("51: a factor that is suspended", (31 * 31 * 7 + 400 + 3 * person + factor) % 65521, x.sum());
            }
        }
    }

    private static void sumModulo() {
        KeyringCourt x = at(30000);
        int sum = 7;
        x.link(0, 0);
        for (int i = 0; i < 60; i++) {
            x.foreign(0);
            sum = (31 * sum + i + 30000) % 65521;
            due.is("51: of " + (i + 1) + " entries", sum, x.sum());
            due.is("52: of " + (i + 1) + " entries", sum, x.sumAnew(i + 1));
        }
        due.is("50: the last one", 59, x.audit(59));
    }
}
