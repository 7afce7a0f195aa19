/** Promises 9 to 16: points, begin, answer, state, asked, sessionOf, risk, trialRisk. */
public final class AttemptsTest {
    private static final Due due = new Due();
    private static final int NONE = KeyringCourt.NONE;
    private static final int ASK = KeyringCourt.ASK, KNOWN = KeyringCourt.KNOWN, RISKY = KeyringCourt.RISKY, HAS = KeyringCourt.HAS;
    private static final int AT_LEAST = KeyringCourt.AT_LEAST, GRANT = KeyringCourt.GRANT, DENY = KeyringCourt.DENY;
    private static final int PASSWORD = KeyringCourt.PASSWORD, CODE = KeyringCourt.CODE, STICK = KeyringCourt.STICK;
    private static final int ASKING = KeyringCourt.ASKING, GRANTED = KeyringCourt.GRANTED, DENIED = KeyringCourt.DENIED;

    public static void main(String[] args) {
        settingPoints();
        beginning();
        mostAttempts();
        answering();
        answerRanges();
        timesOfAsking();
        comingBackToAStep();
        twelveAnswers();
        versionsInTheMidst();
        testsHoldAtThatMoment();
        tests();
        levelInAnAttempt();
        shownMinutesGoToTheSession();
        sixtySessions();
        risks();
        wrongsOfAnHour();
        trialRisks();
        noneDenies();
        lookingAtAttempts();
        due.end("AttemptsTest");
    }

    private static void settingPoints() {
        KeyringCourt x = Courts.open();
        due.is("9: NEW_DEVICE has 2 at first", 2, x.points(KeyringCourt.NEW_DEVICE, 5, false));
        due.is("9: NEW_PLACE has 1 at first", 1, x.points(KeyringCourt.NEW_PLACE, 0, false));
        due.is("9: WRONGS has 1 at first", 1, x.points(KeyringCourt.WRONGS, 4, false));
        due.is("9: the points before", 5, x.points(KeyringCourt.NEW_DEVICE, 3, false));
        due.is("9: none on trial at first", NONE, x.points(KeyringCourt.NEW_DEVICE, 0, true));
        due.is("9: 0 on trial is not none", 0, x.points(KeyringCourt.NEW_DEVICE, NONE, true));
        due.is("9: none again", NONE, x.points(KeyringCourt.NEW_DEVICE, 5, true));
        due.is("9: trial leaves those that hold", 3, x.points(KeyringCourt.NEW_DEVICE, 3, false));
        due.argument("9: rule 3", x, () -> x.points(3, 0, false));
        due.argument("9: rule -1", x, () -> x.points(-1, 0, true));
        due.argument("9: points 6", x, () -> x.points(0, 6, false));
        due.argument("9: points 6 on trial", x, () -> x.points(0, 6, true));
        due.argument("9: points NONE that hold", x, () -> x.points(0, NONE, false));
        due.argument("9: points -2 on trial", x, () -> x.points(0, -2, true));
    }

    private static void beginning() {
        KeyringCourt x = new KeyringCourt();
        due.state("10: no version", x, () -> x.begin(0, 0, 0));
        due.index("10: person comes before no version", x, () -> x.begin(6, 0, 0));
        x.step(GRANT, 0, 0, NONE, NONE);
        x.publish();
        due.index("10: person -1", x, () -> x.begin(-1, 0, 0));
        due.index("10: device 6", x, () -> x.begin(0, 6, 0));
        due.index("10: device -1", x, () -> x.begin(0, -1, 0));
        due.index("10: place 6", x, () -> x.begin(0, 0, 6));
        due.index("10: place -1", x, () -> x.begin(0, 0, -1));
        due.is("10: its number", 0, x.begin(5, 5, 5));
        due.is("10: the next one", 1, x.begin(0, 0, 0));
        x.leave(0);
        due.state("10: the person is away", x, () -> x.begin(0, 0, 0));
        due.index("10: the device comes before that", x, () -> x.begin(0, 6, 0));
        x.leave(0);
        due.is("10: the person joined again", 2, x.begin(0, 0, 0));
    }

    private static void mostAttempts() {
        KeyringCourt x = Courts.testing(KNOWN, 0);
        for (int i = 0; i < 60; i++) {
            due.is("10: its number", i, x.begin(0, 0, 0));
        }
        due.state("10: there are 60 attempts", x, () -> x.begin(0, 0, 0));
        due.is("12: the last one", DENIED, x.state(59));
        due.index("12: the attempt 60", x, () -> x.state(60));
    }

    private static void answering() {
        KeyringCourt x = Courts.asking(STICK, 2);
        x.enroll(0, STICK);
        x.begin(0, 0, 0);
        due.is("12: ASKING", ASKING, x.state(0));
        due.is("13: STICK", STICK, x.asked(0));
        due.is("14: no session", NONE, x.sessionOf(0));
        due.is("11: wrong, once of two", ASKING, x.answer(0, false, 3));
        due.is("11: right", GRANTED, x.answer(0, true, 1));
        due.is("12: GRANTED", GRANTED, x.state(0));
        due.is("13: it does not ask", NONE, x.asked(0));
        due.is("14: its session", 0, x.sessionOf(0));
        due.is("14: which shows what was shown", 3, x.level(0));
        due.state("11: it is not ASKING", x, () -> x.answer(0, true, 2));
        x.begin(0, 0, 0);
        due.is("11: a clone is wrong", ASKING, x.answer(1, true, 1));
        due.is("11: suspended, right is wrong", DENIED, x.answer(1, true, 9));
        due.is("12: DENIED", DENIED, x.state(1));
        due.is("13: denied, it does not ask", NONE, x.asked(1));
        due.is("14: denied, it has no session", NONE, x.sessionOf(1));
        due.state("11: it is DENIED", x, () -> x.answer(1, true, 2));
    }

    private static void answerRanges() {
        KeyringCourt x = Courts.asking(PASSWORD, 1);
        due.index("11: no attempt", x, () -> x.answer(0, true, 0));
        due.index("11: the attempt comes first", x, () -> x.answer(-1, true, -1));
        x.begin(0, 0, 0);
        due.argument("11: counter -1", x, () -> x.answer(0, true, -1));
        due.argument("11: counter 10000", x, () -> x.answer(0, true, 10000));
        x.answer(0, false, 9999);
        due.argument("11: the counter comes before the state", x, () -> x.answer(0, true, 10000));
        due.state("11: DENIED", x, () -> x.answer(0, true, 9999));
        due.index("12: state(1)", x, () -> x.state(1));
        due.index("12: state(-1)", x, () -> x.state(-1));
        due.index("13: asked(1)", x, () -> x.asked(1));
        due.index("13: asked(-1)", x, () -> x.asked(-1));
        due.index("14: sessionOf(1)", x, () -> x.sessionOf(1));
        due.index("14: sessionOf(-1)", x, () -> x.sessionOf(-1));
        due.index("15: risk(1)", x, () -> x.risk(1));
        due.index("15: risk(-1)", x, () -> x.risk(-1));
        due.index("16: trialRisk(1)", x, () -> x.trialRisk(1));
        due.index("16: trialRisk(-1)", x, () -> x.trialRisk(-1));
    }

    private static void timesOfAsking() {
        for (int times = 1; times <= 3; times++) {
            KeyringCourt x = Courts.asking(CODE, times);
            x.enroll(0, CODE);
            x.begin(0, 0, 0);
            for (int i = 1; i < times; i++) {
                due.is("11: it waits again", ASKING, x.answer(0, false, 0));
            }
            due.is("11: as many times wrong as may be", DENIED, x.answer(0, false, 0));
        }
    }

    private static void comingBackToAStep() {
        KeyringCourt x = new KeyringCourt();
        x.step(ASK, PASSWORD, 2, 1, 3);
        x.step(AT_LEAST, 3, 0, 2, 3);
        x.step(GRANT, 0, 0, NONE, NONE);
        x.step(ASK, CODE, 1, 0, 0);
        x.publish();
        x.enroll(0, PASSWORD);
        x.enroll(0, CODE);
        x.begin(0, 0, 0);
        due.is("11: wrong", ASKING, x.answer(0, false, 0));
        due.is("13: PASSWORD still", PASSWORD, x.asked(0));
        x.answer(0, false, 0);
        due.is("13: CODE then", CODE, x.asked(0));
        x.answer(0, false, 0);
        due.is("13: PASSWORD again", PASSWORD, x.asked(0));
        due.is("11: wrong once since it came to this step", ASKING, x.answer(0, false, 0));
        due.is("13: PASSWORD still", PASSWORD, x.asked(0));
        due.is("11: right, but the level is 1", ASKING, x.answer(0, true, 0));
        due.is("13: CODE", CODE, x.asked(0));
        due.is("11: right", ASKING, x.answer(0, true, 0));
        due.is("11: right again, and the level is 3", GRANTED, x.answer(0, true, 0));
        due.is("20: its session's level", 3, x.level(x.sessionOf(0)));
        selfLoop();
    }

    private static void selfLoop() {
        KeyringCourt x = new KeyringCourt();
        x.step(ASK, PASSWORD, 2, 0, NONE);
        x.publish();
        x.enroll(0, PASSWORD);
        x.begin(0, 0, 0);
        x.answer(0, false, 0);
        due.is("11: right, it comes to the same step", ASKING, x.answer(0, true, 0));
        due.is("11: wrong once since then", ASKING, x.answer(0, false, 0));
        due.is("11: wrong twice since then", DENIED, x.answer(0, false, 0));
    }

    private static void twelveAnswers() {
        KeyringCourt x = new KeyringCourt();
        x.step(ASK, PASSWORD, 1, 0, 1);
        x.step(GRANT, 0, 0, NONE, NONE);
        x.publish();
        x.enroll(0, PASSWORD);
        x.begin(0, 0, 0);
        x.begin(0, 0, 0);
        for (int i = 0; i < 11; i++) {
            due.is("11: of 12", ASKING, x.answer(0, true, 0));
            x.answer(1, true, 0);
        }
        due.is("11: ASKING with 12 answers is DENIED", DENIED, x.answer(0, true, 0));
        due.is("11: the 12th answer may grant", GRANTED, x.answer(1, false, 0));
    }

    private static void versionsInTheMidst() {
        KeyringCourt x = Courts.asking(PASSWORD, 1);
        x.enroll(0, PASSWORD);
        x.enroll(0, CODE);
        x.begin(0, 0, 0);
        x.step(ASK, CODE, 1, 1, NONE);
        x.step(DENY, 0, 0, NONE, NONE);
        due.is("7: published in the midst", 1, x.publish());
        x.begin(0, 0, 0);
        due.is("13: by the version of its beginning", PASSWORD, x.asked(0));
        due.is("13: by the newest one", CODE, x.asked(1));
        due.is("11: by the old one it is granted", GRANTED, x.answer(0, true, 0));
        due.is("11: by the new one it is denied", DENIED, x.answer(1, true, 0));
        x.step(GRANT, 0, 0, NONE, NONE);
        x.begin(0, 0, 0);
        due.is("13: a draft is no version", CODE, x.asked(2));
    }

    private static void testsHoldAtThatMoment() {
        KeyringCourt x = new KeyringCourt();
        x.step(ASK, PASSWORD, 1, 1, 1);
        x.step(RISKY, 4, 0, 3, 2);
        x.step(GRANT, 0, 0, NONE, NONE);
        x.step(DENY, 0, 0, NONE, NONE);
        x.publish();
        x.enroll(0, PASSWORD);
        x.begin(0, 0, 0);
        x.begin(0, 0, 0);
        due.is("15: risk 3", 3, x.risk(0));
        due.is("11: the wrong answer itself makes it RISKY", DENIED, x.answer(0, false, 0));
        x.points(KeyringCourt.NEW_DEVICE, 1, false);
        due.is("11: not so when the points fell meanwhile", GRANTED, x.answer(1, true, 0));
        x.points(KeyringCourt.WRONGS, 4, false);
        x.begin(0, 0, 0);
        due.is("15: the wrong answer alone, as device and place are known", 4, x.risk(2));
        x.pass(60);
        due.is("11: minutes later it is no risk", GRANTED, x.answer(2, true, 0));
    }

    private static int begun(KeyringCourt x, int person, int device, int place) {
        return x.state(x.begin(person, device, place));
    }

    private static void tests() {
        KeyringCourt known = Courts.testing(KNOWN, 0);
        due.is("10: KNOWN, not known", DENIED, begun(known, 0, 1, 2));
        due.is("10: KNOWN, denied it is not known", DENIED, begun(known, 0, 1, 2));
        known.step(GRANT, 0, 0, NONE, NONE);
        known.publish();
        known.begin(0, 1, 2);
        known.step(KNOWN, 0, 0, 1, NONE);
        known.step(GRANT, 0, 0, NONE, NONE);
        known.publish();
        due.is("10: KNOWN, granted it is known, at another place too", GRANTED, begun(known, 0, 1, 3));
        due.is("10: KNOWN, another device is not", DENIED, begun(known, 0, 2, 2));
        due.is("10: KNOWN, for another person it is not", DENIED, begun(known, 1, 1, 2));
        KeyringCourt has = Courts.testing(HAS, CODE);
        due.is("10: HAS, absent", DENIED, begun(has, 0, 0, 0));
        has.enroll(0, CODE);
        due.is("10: HAS, ready", GRANTED, begun(has, 0, 0, 0));
        Courts.repeat(5, () -> has.stepUp(0, CODE, false, 0));
        due.is("10: HAS, suspended", DENIED, begun(has, 0, 0, 0));
        for (int number = 2; number <= 4; number++) {
            due.is("10: RISKY " + number + " with a risk of 3", number <= 3 ? GRANTED : DENIED, begun(Courts.testing(RISKY, number), 0, 0, 0));
        }
        due.is("10: AT_LEAST 0", GRANTED, begun(Courts.testing(AT_LEAST, 0), 0, 0, 0));
        due.is("10: AT_LEAST 1", DENIED, begun(Courts.testing(AT_LEAST, 1), 0, 0, 0));
        KeyringCourt trial = Courts.testing(RISKY, 4);
        trial.points(KeyringCourt.NEW_DEVICE, 5, true);
        due.is("10: RISKY goes not by the trial risk", DENIED, begun(trial, 0, 0, 0));
    }

    private static void levelInAnAttempt() {
        KeyringCourt x = new KeyringCourt();
        x.step(ASK, CODE, 1, 1, NONE);
        x.step(ASK, STICK, 1, 2, NONE);
        x.step(AT_LEAST, 5, 0, 3, NONE);
        x.step(GRANT, 0, 0, NONE, NONE);
        x.publish();
        x.enroll(0, CODE);
        x.enroll(0, STICK);
        x.begin(0, 0, 0);
        x.answer(0, true, 0);
        x.pass(121);
        due.is("11: shown in this attempt, however long ago", GRANTED, x.answer(0, true, 1));
        due.is("20: in the session only the last 120 minutes count", 3, x.level(0));
    }

    private static void shownMinutesGoToTheSession() {
        KeyringCourt x = new KeyringCourt();
        x.step(ASK, CODE, 1, 1, NONE);
        x.step(ASK, STICK, 1, 2, NONE);
        x.step(GRANT, 0, 0, NONE, NONE);
        x.publish();
        x.enroll(0, CODE);
        x.enroll(0, STICK);
        x.begin(0, 0, 0);
        x.answer(0, true, 0);
        x.pass(100);
        x.answer(0, true, 1);
        due.is("20: both", 5, x.level(0));
        x.pass(20);
        due.is("20: the first was shown 120 minutes ago", 5, x.level(0));
        x.pass(1);
        due.is("20: the first was shown 121 minutes ago", 3, x.level(0));
    }

    private static void sixtySessions() {
        KeyringCourt x = Courts.asking(PASSWORD, 1);
        x.enroll(1, PASSWORD);
        x.begin(1, 0, 0);
        x.link(0, 0);
        Courts.repeat(59, () -> x.foreign(0));
        due.is("11: there are 59 sessions", GRANTED, x.answer(0, true, 0));
        due.is("14: the last one", 59, x.sessionOf(0));
        x.begin(1, 1, 1);
        due.is("11: there are 60 sessions", DENIED, x.answer(1, true, 0));
        due.is("14: none", NONE, x.sessionOf(1));
        due.is("15: nothing is learnt by that", 3, x.risk(1));
        due.is("17: 60 sessions", 60, x.sessions());
    }

    private static void risks() {
        KeyringCourt x = Courts.asking(PASSWORD, 3);
        x.enroll(0, PASSWORD);
        x.begin(0, 1, 2);
        due.is("15: device and place are new", 3, x.risk(0));
        x.answer(0, true, 0);
        due.is("15: granted they are known", 0, x.risk(0));
        x.begin(0, 1, 3);
        due.is("15: the place is new", 1, x.risk(1));
        x.begin(0, 4, 2);
        due.is("15: the device is new", 2, x.risk(2));
        x.begin(1, 1, 2);
        due.is("15: for another person both are new", 3, x.risk(3));
        x.answer(3, false, 0);
        due.is("15: a wrong answer of another person", 0, x.risk(0));
        x.answer(1, false, 0);
        due.is("15: a wrong answer counts in all attempts of the person", 1, x.risk(0));
        due.is("15: in this one too", 2, x.risk(1));
        x.answer(1, false, 0);
        x.answer(2, false, 0);
        due.is("15: three wrong answers", 3, x.risk(0));
        x.answer(2, false, 0);
        due.is("15: four count as three", 3, x.risk(0));
        x.points(KeyringCourt.WRONGS, 5, false);
        due.is("15: with other points", 15, x.risk(0));
        x.points(KeyringCourt.NEW_PLACE, 4, false);
        due.is("15: whatever its state", 19, x.risk(1));
        x.points(KeyringCourt.NEW_DEVICE, 5, false);
        x.answer(1, true, 0);
        due.is("15: the device is known, the place learnt", 15, x.risk(1));
        due.is("15: of one that is ASKING", 20, x.risk(2));
    }

    private static void wrongsOfAnHour() {
        KeyringCourt x = Courts.asking(PASSWORD, 3);
        x.points(KeyringCourt.NEW_DEVICE, 0, false);
        x.points(KeyringCourt.NEW_PLACE, 0, false);
        x.begin(0, 0, 0);
        x.begin(0, 0, 0);
        x.answer(0, false, 0);
        due.is("15: in the minute 0", 1, x.risk(0));
        x.pass(30);
        x.answer(0, false, 0);
        x.pass(29);
        due.is("15: 59 minutes ago it counts", 2, x.risk(0));
        x.pass(1);
        due.is("15: 60 minutes ago it does not", 1, x.risk(0));
        x.answer(1, false, 0);
        x.answer(1, false, 0);
        due.is("15: three in the last 60 minutes", 3, x.risk(0));
        x.pass(30);
        due.is("15: two", 2, x.risk(0));
        x.pass(30);
        due.is("15: none", 0, x.risk(0));
    }

    private static void trialRisks() {
        KeyringCourt x = Courts.asking(PASSWORD, 3);
        x.begin(0, 0, 0);
        x.answer(0, false, 0);
        x.answer(0, false, 0);
        due.is("16: without trial", 5, x.trialRisk(0));
        x.points(KeyringCourt.NEW_DEVICE, 0, true);
        due.is("16: NEW_DEVICE 0 on trial", 3, x.trialRisk(0));
        due.is("15: the risk is as it was", 5, x.risk(0));
        x.points(KeyringCourt.WRONGS, 4, true);
        due.is("16: WRONGS 4 on trial", 9, x.trialRisk(0));
        x.points(KeyringCourt.NEW_PLACE, 5, true);
        due.is("16: NEW_PLACE 5 on trial", 13, x.trialRisk(0));
        x.points(KeyringCourt.NEW_PLACE, 3, false);
        due.is("16: points that hold do not count for it then", 13, x.trialRisk(0));
        due.is("15: they count in the risk", 7, x.risk(0));
        x.points(KeyringCourt.NEW_PLACE, NONE, true);
        due.is("16: none on trial, those that hold", 11, x.trialRisk(0));
        x.answer(0, false, 0);
        due.is("16: three wrongs, DENIED", 15, x.trialRisk(0));
    }

    private static KeyringCourt denying() {
        KeyringCourt court = new KeyringCourt();
        court.step(DENY, 0, 0, 99, 99);
        court.publish();
        return court;
    }

    /** What becomes of an attempt of the person 0, who has a PASSWORD, on the device 0, which is known, by one step and a GRANT. */
    private static int byOneStep(int kind, int a, int yes, int no) {
        KeyringCourt x = Courts.open();
        x.begin(0, 0, 0);
        x.enroll(0, PASSWORD);
        x.step(kind, a, kind == ASK ? 1 : 0, yes, no);
        x.step(GRANT, 0, 0, NONE, NONE);
        x.publish();
        x.begin(0, 0, 0);
        return kind == ASK ? x.answer(1, a == PASSWORD, 0) : x.state(1);
    }

    private static void noneDenies() {
        int[][] yes = {{ASK, PASSWORD}, {KNOWN, 0}, {RISKY, 0}, {HAS, PASSWORD}, {AT_LEAST, 0}};
        int[][] no = {{ASK, CODE}, {RISKY, 1}, {HAS, CODE}, {AT_LEAST, 1}};
        for (int[] step : yes) {
            due.is("10: NONE for yes denies, at " + step[0], DENIED, byOneStep(step[0], step[1], NONE, 1));
            due.is("10: yes goes to the step for yes, at " + step[0], GRANTED, byOneStep(step[0], step[1], 1, NONE));
        }
        for (int[] step : no) {
            due.is("10: NONE for no denies, at " + step[0], DENIED, byOneStep(step[0], step[1], 1, NONE));
            due.is("10: no goes to the step for no, at " + step[0], GRANTED, byOneStep(step[0], step[1], NONE, 1));
        }
    }

    private static void lookingAtAttempts() {
        KeyringCourt x = denying();
        x.begin(0, 0, 0);
        due.is("12: DENY at once", DENIED, x.state(0));
        KeyringCourt none = new KeyringCourt();
        none.step(KNOWN, 0, 0, NONE, NONE);
        none.publish();
        none.begin(0, 0, 0);
        due.is("12: NONE denies", DENIED, none.state(0));
        KeyringCourt open = Courts.open();
        open.begin(0, 0, 0);
        due.is("12: GRANT at once", GRANTED, open.state(0));
        due.is("14: its session", 0, open.sessionOf(0));
        due.is("20: in which nothing was shown", 0, open.level(0));
    }
}
