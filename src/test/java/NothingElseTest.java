/**
 * What the document does not say of a call does not happen: each thing next to what changes stays as it was,
 * and what was asked for once is not asked for again.
 */
public final class NothingElseTest {
    private static final Due due = new Due();
    private static final int NONE = KeyringCourt.NONE, LOW = KeyringCourt.LOW, UNASKED = KeyringCourt.UNASKED;
    private static final int ASK = KeyringCourt.ASK, GRANT = KeyringCourt.GRANT;
    private static final int PASSWORD = KeyringCourt.PASSWORD, CODE = KeyringCourt.CODE, STICK = KeyringCourt.STICK;
    private static final int ABSENT = KeyringCourt.ABSENT, READY = KeyringCourt.READY, SUSPENDED = KeyringCourt.SUSPENDED;
    private static final int ASKING = KeyringCourt.ASKING, GRANTED = KeyringCourt.GRANTED, DENIED = KeyringCourt.DENIED;
    private static final int GOOD = KeyringCourt.GOOD, NO_KEY = KeyringCourt.NO_KEY, ENDED = KeyringCourt.ENDED, NO_SCOPE = KeyringCourt.NO_SCOPE;

    public static void main(String[] args) {
        rowsOfOtherFactors();
        counterOfTheStickAlone();
        rowsOfOtherPeople();
        oneRowForAttemptsAndSessions();
        notedAnswersStay();
        whatWasShownStays();
        levelsOfWhatIsSuspendedOrAbsent();
        versionOfTheBeginning();
        whatIsKnownStays();
        pointsStay();
        usesOfOwnersAndOfThoseThatBelong();
        helpersThemselves();
        withdrawalsByWhomTheSessionIs();
        needOfTheClient();
        consentAndNeedAreAskedOnce();
        codesGoByTheirMaking();
        refreshedTokensHaveTheFamilysScopes();
        familiesAreToldOnce();
        linesFetchNothing();
        oneServiceAlone();
        emergenciesLeaveOtherKeys();
        finishLeavesTheRest();
        leavingLeavesTheRest();
        vouchesStay();
        linksOfOtherAccounts();
        endsOfFamiliesAlone();
        lateEntries();
        due.end("NothingElseTest");
    }

    // ---- factors

    private static void rowsOfOtherFactors() {
        for (int factor = PASSWORD; factor <= STICK; factor++) {
            for (int other = PASSWORD; other <= STICK; other++) {
                if (factor != other) {
                    rowsOf(factor, other);
                }
            }
        }
    }

    private static void rowsOf(int factor, int other) {
        KeyringCourt x = Courts.open();
        int session = Courts.signIn(x, 0);
        x.enroll(0, factor);
        x.enroll(0, other);
        Courts.repeat(4, () -> x.stepUp(session, factor, false, 0));
        x.stepUp(session, other, true, 1);
        x.stepUp(session, other, false, 0);
        x.enroll(0, other);
        due.is("3: four wrongs in a row, and one for another factor", READY, x.factor(0, factor));
        due.is("3: of that one", READY, x.factor(0, other));
        x.stepUp(session, factor, false, 0);
        due.is("3: five in a row, whatever was right and enrolled of another factor", SUSPENDED, x.factor(0, factor));
        due.is("3: the other one", READY, x.factor(0, other));
    }

    private static void counterOfTheStickAlone() {
        for (int other = PASSWORD; other <= CODE; other++) {
            KeyringCourt x = Courts.open();
            int session = Courts.signIn(x, 0, STICK);
            x.enroll(0, other);
            x.stepUp(session, other, true, 9000);
            due.is("3: a right answer for another factor is no counter of the STICK", 4 + other, x.stepUp(session, STICK, true, 2));
            due.is("3: right, so it is ready", READY, x.factor(0, STICK));
            x.enroll(0, other);
            x.stepUp(session, STICK, true, 2);
            due.is("3: another factor enrolled, the STICK has its counter still", SUSPENDED, x.factor(0, STICK));
        }
        KeyringCourt y = Courts.open();
        int one = Courts.signIn(y, 0, STICK);
        int two = Courts.signIn(y, 1, STICK);
        y.stepUp(one, STICK, true, 100);
        due.is("3: the counter of another person's STICK", 3, y.stepUp(two, STICK, true, 2));
        due.is("3: is another one", READY, y.factor(1, STICK));
    }

    private static void rowsOfOtherPeople() {
        KeyringCourt x = Courts.open();
        int one = Courts.signIn(x, 0, CODE);
        int two = Courts.signIn(x, 1, CODE);
        Courts.repeat(4, () -> x.stepUp(one, CODE, false, 0));
        x.stepUp(two, CODE, false, 0);
        due.is("3: four of this person", READY, x.factor(0, CODE));
        due.is("3: one of that person", READY, x.factor(1, CODE));
        x.stepUp(two, CODE, true, 0);
        x.enroll(1, CODE);
        x.stepUp(one, CODE, false, 0);
        due.is("3: five of this person", SUSPENDED, x.factor(0, CODE));
        due.is("3: that person's stays", READY, x.factor(1, CODE));
    }

    private static void oneRowForAttemptsAndSessions() {
        KeyringCourt x = Courts.asking(CODE, 3);
        int session = Courts.signIn(x, 0, CODE);
        int other = Courts.signIn(x, 0);
        x.begin(0, 0, 0);
        x.begin(0, 1, 1);
        x.answer(0, false, 0);
        x.stepUp(session, CODE, false, 0);
        x.answer(1, false, 0);
        x.stepUp(other, CODE, false, 0);
        due.is("3: four in a row, each elsewhere", READY, x.factor(0, CODE));
        x.answer(0, false, 0);
        due.is("3: five in a row, each elsewhere", SUSPENDED, x.factor(0, CODE));
        due.is("11: wrong twice of three, it asks still", ASKING, x.state(0));
        due.is("11: suspended, a right answer is wrong: the third time", DENIED, x.answer(0, true, 0));
    }

    private static void notedAnswersStay() {
        KeyringCourt x = Courts.asking(PASSWORD, 3);
        x.enroll(0, PASSWORD);
        x.begin(0, 0, 0);
        Courts.repeat(2, () -> x.answer(0, false, 0));
        x.enroll(0, PASSWORD);
        due.is("15: enrolled, the wrong answers are noted still", 5, x.risk(0));
        x.answer(0, true, 0);
        due.is("15: answered right and granted, they are noted still", 2, x.risk(0));
        x.signOut(0);
        due.is("15: signed out, too", 2, x.risk(0));
    }

    // ---- attempts, sessions

    private static void whatWasShownStays() {
        KeyringCourt x = new KeyringCourt();
        x.step(ASK, PASSWORD, 1, 1, NONE);
        x.step(ASK, PASSWORD, 1, 2, 2);
        x.step(KeyringCourt.AT_LEAST, 1, 0, 3, NONE);
        x.step(GRANT, 0, 0, NONE, NONE);
        x.publish();
        x.enroll(0, PASSWORD);
        x.begin(0, 0, 0);
        x.answer(0, true, 0);
        due.is("11: shown, then answered wrong: shown still", GRANTED, x.answer(0, false, 0));
        due.is("20: in its session, too", 1, x.level(0));
        due.is("21: a wrong answer in the session", 1, x.stepUp(0, PASSWORD, false, 0));
        due.is("20: takes nothing away", 1, x.level(0));
        x.begin(0, 0, 0);
        x.answer(1, true, 0);
        x.pass(20);
        due.is("11: shown twice", GRANTED, x.answer(1, true, 0));
        Courts.passUsing(x, 120, 1);
        due.is("20: 120 minutes after the second time", 1, x.level(1));
        x.pass(1);
        due.is("20: 121 minutes after it", 0, x.level(1));
    }

    private static void levelsOfWhatIsSuspendedOrAbsent() {
        KeyringCourt x = Courts.open();
        int session = Courts.signIn(x, 0, CODE, STICK);
        x.stepUp(session, STICK, true, 1);
        due.is("3: suspended", SUSPENDED, x.factor(0, STICK));
        due.is("20: it was shown all the same", 5, x.level(session));
        x.enroll(0, CODE);
        due.is("20: enrolled anew, too", 5, x.level(session));
        x.recover(0);
        x.vouch(0, Courts.signIn(x, 1, STICK));
        x.vouch(0, Courts.signIn(x, 2, STICK));
        Courts.passUsing(x, 60, session);
        due.is("45: its session is ended", 1, x.finish(0));
        due.is("4: absent", ABSENT, x.factor(0, CODE));
        due.is("20: it was shown all the same, live or not", 5, x.level(session));
    }

    private static void versionOfTheBeginning() {
        KeyringCourt x = new KeyringCourt();
        x.step(ASK, PASSWORD, 2, 1, 2);
        x.step(ASK, CODE, 1, 3, NONE);
        x.step(KeyringCourt.DENY, 0, 0, NONE, NONE);
        x.step(GRANT, 0, 0, NONE, NONE);
        x.publish();
        x.enroll(0, PASSWORD);
        x.enroll(0, CODE);
        x.begin(0, 0, 0);
        x.begin(0, 0, 0);
        x.step(ASK, STICK, 1, 1, 1);
        x.step(GRANT, 0, 0, NONE, NONE);
        x.publish();
        due.is("13: it asks as it did", PASSWORD, x.asked(0));
        due.is("11: and as many times", ASKING, x.answer(0, false, 0));
        due.is("11: a right one", ASKING, x.answer(0, true, 0));
        due.is("13: goes to the step of the old version", CODE, x.asked(0));
        x.step(KeyringCourt.DENY, 0, 0, NONE, NONE);
        x.publish();
        due.is("11: to the end by the old version", GRANTED, x.answer(0, true, 0));
        x.answer(1, false, 0);
        due.is("11: and as few times", DENIED, x.answer(1, false, 0));
        due.is("8: the old version is as it was", 3, x.weakest(0));
    }

    private static void whatIsKnownStays() {
        KeyringCourt x = Courts.open();
        x.begin(0, 1, 2);
        x.begin(0, 3, 4);
        due.is("15: the device and the place of now", 0, x.risk(1));
        due.is("15: those known before are known still", 0, x.risk(0));
        x.signOut(0);
        x.signOut(1);
        due.is("15: signed out, too", 0, x.risk(0));
        x.pass(600);
        due.is("15: and long after", 0, x.risk(1));
        x.step(KeyringCourt.DENY, 0, 0, NONE, NONE);
        x.publish();
        x.begin(0, 1, 4);
        due.is("15: the device of one and the place of the other", 0, x.risk(2));
        x.begin(0, 2, 1);
        due.is("15: a place is no device, and a device no place", 3, x.risk(3));
        due.is("15: denied, nothing is learnt", 3, x.risk(3));
    }

    private static void pointsStay() {
        KeyringCourt x = Courts.open();
        for (int rule = 0; rule < 3; rule++) {
            x.points(rule, rule + 1, true);
        }
        x.points(KeyringCourt.NEW_PLACE, NONE, true);
        x.points(KeyringCourt.NEW_PLACE, 5, false);
        x.step(GRANT, 0, 0, NONE, NONE);
        x.publish();
        x.begin(0, 0, 0);
        x.pass(600);
        x.leave(0);
        due.is("9: on trial, as it was", 1, x.points(KeyringCourt.NEW_DEVICE, 0, true));
        due.is("9: none on trial, as it was", NONE, x.points(KeyringCourt.NEW_PLACE, 0, true));
        due.is("9: on trial, as it was", 3, x.points(KeyringCourt.WRONGS, 0, true));
        due.is("9: as it was", 2, x.points(KeyringCourt.NEW_DEVICE, 0, false));
        due.is("9: as it was set", 5, x.points(KeyringCourt.NEW_PLACE, 0, false));
        due.is("9: as it was", 1, x.points(KeyringCourt.WRONGS, 0, false));
    }

    /** The helper's session 0 and the session 1 that belongs to it, begun in this minute, each with a family. */
    private static KeyringCourt acting() {
        KeyringCourt x = Courts.open();
        Courts.signIn(x, 0, STICK);
        x.helper(0);
        x.act(0, 1);
        Courts.family(x, 0, 0, 0);
        Courts.family(x, 1, 0, 0);
        return x;
    }

    private static void usesOfOwnersAndOfThoseThatBelong() {
        KeyringCourt x = acting();
        x.pass(30);
        x.authorize(1, 0, 0, 1);
        x.refresh(1, 0);
        due.is("2: to use one that belongs is no use of the helper's", 2, x.pass(1));
        KeyringCourt y = acting();
        y.pass(30);
        y.authorize(0, 0, 0, 1);
        y.stepUp(0, PASSWORD, true, 0);
        y.refresh(0, 0);
        due.is("2: to use the helper's is no use of one that belongs", 1, y.pass(1));
        due.no("18: that one is ended", y.isLive(1));
        due.no("31: with its family", y.isGood(1));
        due.yes("18: the helper's goes on", y.isLive(0));
        due.yes("31: with its family", y.isGood(0));
        KeyringCourt z = acting();
        due.is("22: signed out of one that belongs", 1, z.signOut(1));
        due.yes("18: the helper's goes on", z.isLive(0));
        due.yes("31: with its family", z.isGood(0));
    }

    private static void helpersThemselves() {
        KeyringCourt x = Courts.open();
        int session = Courts.signIn(x, 0, STICK);
        x.helper(1);
        due.state("24: the person for whom is a helper, but not the own", x, () -> x.act(session, 1));
        x.helper(0);
        due.is("24: a helper for a helper", 1, x.act(session, 1));
        due.is("24: once more for the same person", 2, x.act(session, 1));
        int other = Courts.signIn(x, 2, STICK);
        due.state("24: another person is no helper by that", x, () -> x.act(other, 1));
        x.helper(1);
        due.yes("18: no helper any more, the sessions go on", x.isLive(1) && x.isLive(2));
    }

    // ---- consent, tokens

    private static void withdrawalsByWhomTheSessionIs() {
        KeyringCourt x = acting();
        due.is("26: of the helper, only the own family", 1, x.withdraw(0, 0));
        due.no("31: ended", x.isGood(0));
        due.yes("31: the one by which is acted is of the other person", x.isGood(1));
        due.is("26: of that person", 1, x.withdraw(1, 0));
        due.no("31: ended", x.isGood(1));
        KeyringCourt y = acting();
        due.is("26: by the client, not the audience", 0, y.withdraw(0, 1));
        y.redeem(y.authorize(0, 0, 1, 1));
        due.is("26: nor is a service that is an audience meant", 0, y.withdraw(0, 1));
        due.is("26: all of that client", 2, y.withdraw(0, 0));
        due.is("25: a person's withdrawal leaves that of others", 3, y.consent(2, 0, 3));
        y.consent(0, 3, 6);
        y.withdraw(0, 0);
        due.is("25: as it was", 3, y.consent(2, 0, 0));
        due.is("25: that of the person for another client, too", 6, y.consent(0, 3, 0));
    }

    private static void needOfTheClient() {
        KeyringCourt x = Courts.open();
        int session = Courts.signIn(x, 0, CODE);
        x.consent(NONE, 1, 15);
        x.need(1, 6);
        due.is("28: what the client needs when it is an audience", 0, x.authorize(session, 1, 2, 1));
        due.is("28: counts when it is one", LOW, x.authorize(session, 1, 1, 1));
        x.redeem(0);
        due.is("33: what the client needs when it is an audience", 1, x.exchange(0, 3, 1));
        x.need(2, 6);
        due.is("33: and what the token's audience needs", 2, x.exchange(0, 3, 1));
    }

    private static void consentAndNeedAreAskedOnce() {
        KeyringCourt x = Courts.open();
        int session = Courts.signIn(x, 0, CODE);
        x.consent(0, 1, 3);
        int code = x.authorize(session, 1, 2, 3);
        int other = x.authorize(session, 1, 2, 1);
        x.withdraw(0, 1);
        x.need(2, 6);
        due.is("28: consented to no more", UNASKED, x.authorize(session, 1, 2, 3));
        due.is("29: a code of before is redeemed, whatever is consented to and needed", 0, x.redeem(code));
        due.is("30: and its family refreshed", 1, x.refresh(0, 0));
        due.is("40: and its tokens are good", GOOD, x.check(2, 1, 1));
        due.is("33: and exchanged, as another audience needs nothing", 2, x.exchange(1, 3, 3));
        due.is("29: another code, too", 1, x.redeem(other));
        x.need(3, 6);
        due.yes("31: to need more ends no family", x.isGood(0));
        due.is("40: and no token", GOOD, x.check(3, 2, 0));
    }

    private static void codesGoByTheirMaking() {
        KeyringCourt x = Courts.open();
        int session = Courts.signIn(x, 0);
        x.consent(NONE, 1, 15);
        int code = x.authorize(session, 1, 2, 15);
        int other = x.authorize(session, 1, 2, 15);
        x.pass(4);
        x.redeem(x.authorize(session, 1, 2, 1));
        due.is("29: used 4 minutes behind its making, the session makes no code younger", 1, x.redeem(code));
        x.pass(2);
        x.stepUp(session, PASSWORD, true, 0);
        due.is("29: nor used 6 minutes behind it", NONE, x.redeem(other));
        due.index("31: no third family", x, () -> Due.one(x.isGood(2)));
    }

    private static void refreshedTokensHaveTheFamilysScopes() {
        KeyringCourt x = Courts.open();
        int family = Courts.family(x, Courts.signIn(x, 0), 1, 2);
        x.exchange(0, 3, 1);
        due.is("32: the exchanged one is the latest", 1, x.tokenOf(family));
        x.refresh(family, 0);
        due.is("34: the client and the audience are the family's, and none has acted", 10120, x.token(2));
        due.is("40: and the scopes", GOOD, x.check(2, 2, 3));
        due.is("40: the exchanged one has fewer", NO_SCOPE, x.check(3, 1, 3));
        due.is("40: the first one all", GOOD, x.check(2, 0, 3));
        due.is("34: the first one is as it was", 10120, x.token(0));
    }

    // ---- services, keys

    private static void familiesAreToldOnce() {
        KeyringCourt x = Courts.open();
        int family = Courts.family(x, Courts.signIn(x, 0), 1, 2);
        x.refresh(family, 0);
        x.exchange(0, 2, 1);
        x.exchange(0, 3, 1);
        x.line(2);
        x.line(3);
        x.redeem(0);
        due.is("39: one family, of which it is the audience three times", 1, x.line(2));
        due.is("39: and once", 1, x.line(3));
        for (int token = 0; token < 3; token++) {
            due.is("40: told for each token of it", ENDED, x.check(2, token, 0));
        }
        due.is("39: down", 0, x.line(2));
        due.is("39: told once", 0, x.line(2));
    }

    private static void linesFetchNothing() {
        KeyringCourt x = Courts.open();
        int family = Courts.family(x, Courts.signIn(x, 0), 1, 2);
        x.emergency();
        x.line(2);
        x.line(2);
        due.is("40: down and up again, its cache is as it was", GOOD, x.check(2, 0, 0));
        x.refresh(family, 0);
        due.is("40: it fetches by a check", GOOD, x.check(2, 1, 0));
        due.is("40: then it has the withdrawn key no more", NO_KEY, x.check(2, 0, 0));
    }

    private static void oneServiceAlone() {
        KeyringCourt x = Courts.open();
        int session = Courts.signIn(x, 0);
        Courts.family(x, session, 0, 1);
        Courts.family(x, session, 0, 2);
        x.emergency();
        Courts.family(x, session, 0, 1);
        due.is("40: a service fetches", GOOD, x.check(1, 2, 0));
        due.is("40: by that it has the withdrawn key no more", NO_KEY, x.check(1, 0, 0));
        due.is("40: another one has it still", GOOD, x.check(2, 1, 0));
        x.line(1);
        x.redeem(1);
        due.is("40: the line of another one is down: told", ENDED, x.check(2, 1, 0));
        x.need(1, 6);
        due.is("27: what another one needs", 0, x.need(2, 0));
    }

    private static void emergenciesLeaveOtherKeys() {
        KeyringCourt x = new KeyringCourt();
        x.turn();
        x.pass(5);
        x.turn();
        x.pass(2);
        due.is("36: the key 1 is withdrawn, the key 2 signs", 2, x.emergency());
        due.yes("38: the key 0 is published until it is retired", x.isPublished(0));
        due.no("38: the key 1 is not", x.isPublished(1));
        x.pass(17);
        due.yes("38: in the minute 24", x.isPublished(0));
        x.pass(1);
        due.no("38: in the minute 25", x.isPublished(0));
        x.pass(600);
        due.yes("38: the key that signs goes on", x.isPublished(2));
    }

    // ---- recovery, leaving, foreign accounts

    /** The person 0 is a helper, consents, is linked, known, noted for two wrong answers, and asked for a CODE. */
    private static KeyringCourt settled() {
        KeyringCourt x = Courts.asking(CODE, 3);
        Courts.signIn(x, 0, CODE, STICK);
        x.helper(0);
        x.consent(0, 1, 3);
        x.link(5, 0);
        x.begin(0, 3, 4);
        x.answer(0, true, 0);
        x.begin(0, 3, 5);
        return x;
    }

    private static void settledStill(String what, KeyringCourt x) {
        due.no(what + ": a helper, no more", x.helper(0));
        due.is(what + ": the consent", 3, x.consent(0, 1, 0));
        due.is(what + ": known, and two wrong answers", 2, x.risk(0));
        due.is(what + ": linked", 0, x.link(5, 0));
        due.is(what + ": granted", GRANTED, x.state(0));
        due.is(what + ": the session that it had", 1, x.sessionOf(0));
    }

    private static void finishLeavesTheRest() {
        KeyringCourt x = settled();
        x.recover(0);
        x.vouch(0, Courts.signIn(x, 1, STICK));
        x.vouch(0, Courts.signIn(x, 2, STICK));
        x.pass(60);
        Courts.repeat(2, () -> x.answer(1, false, 0));
        x.finish(0);
        settledStill("45", x);
        due.is("45: asked still", ASKING, x.state(1));
        due.is("45: but what is absent is answered wrong", DENIED, x.answer(1, true, 0));
        due.is("45: another person's recovery may begin", 1, x.recover(1));
        due.is("45: other people's factors", READY, x.factor(1, STICK));
    }

    private static void leavingLeavesTheRest() {
        KeyringCourt x = settled();
        Courts.repeat(2, () -> x.answer(1, false, 0));
        x.enroll(0, PASSWORD);
        x.stepUp(1, CODE, true, 0);
        x.leave(0);
        settledStill("48", x);
        due.is("48: denied", DENIED, x.state(1));
        due.is("48: a factor", READY, x.factor(0, STICK));
        due.is("48: and another one", READY, x.factor(0, CODE));
        due.is("48: joins", NONE, x.leave(0));
        int session = x.foreign(5);
        due.is("48: the counter of the STICK, too", 0, x.stepUp(session, STICK, true, 1));
        due.is("48: by that it is suspended", SUSPENDED, x.factor(0, STICK));
        due.is("25: consented to still", 3, x.consent(0, 1, 0));
    }

    private static void vouchesStay() {
        KeyringCourt x = Courts.open();
        int recovery = x.recover(0);
        x.vouch(recovery, Courts.signIn(x, 1, STICK));
        x.leave(1);
        x.leave(1);
        int again = Courts.signIn(x, 1, STICK);
        due.state("43: left and joined again, the person has vouched still", x, () -> x.vouch(recovery, again));
        due.is("43: and counts still", 6, x.vouch(recovery, Courts.signIn(x, 2, STICK)));
        x.pass(60);
        x.leave(1);
        x.leave(2);
        due.is("45: two have vouched, though they are away now", 0, x.finish(recovery));
        x.leave(2);
        int next = x.recover(0);
        int last = Courts.signIn(x, 2, STICK);
        due.is("43: for the next recovery none has", 3, x.vouch(next, last));
        due.is("44: one has", 1, x.stop(next, Courts.signIn(x, 0)));
    }

    private static void linksOfOtherAccounts() {
        KeyringCourt x = Courts.open();
        x.link(0, 3);
        x.link(1, 3);
        x.link(2, 4);
        due.is("46: taken away", 3, x.link(0, NONE));
        due.is("47: another account of the person", 0, x.foreign(1));
        due.is("47: another account of another one", 1, x.foreign(2));
        x.link(1, NONE);
        x.link(1, 4);
        due.is("47: linked to another one now", 2, x.foreign(1));
        due.is("48: whose session it is, and the other one", 2, x.leave(4));
        due.yes("18: the session of before is of the person before", x.isLive(0));
    }

    // ---- families, audit

    private static void endsOfFamiliesAlone() {
        KeyringCourt x = Courts.open();
        int session = Courts.signIn(x, 0);
        for (int i = 0; i < 4; i++) {
            Courts.family(x, session, i, 3);
        }
        x.redeem(1);
        x.refresh(2, 0);
        x.refresh(2, 1);
        x.refresh(2, 0);
        x.withdraw(0, 3);
        due.yes("18: the session goes on", x.isLive(session));
        due.yes("31: the first family", x.isGood(0));
        due.no("31: redeemed again", x.isGood(1));
        due.no("31: stolen", x.isGood(2));
        due.no("31: withdrawn", x.isGood(3));
        due.is("30: the first one is refreshed", 1, x.refresh(0, 0));
    }

    private static void lateEntries() {
        KeyringCourt x = Courts.withSessions(60);
        for (int session = 59; session >= 0; session -= 2) {
            x.signOut(session);
        }
        x.emergency();
        due.is("49: so many entries", 91, x.audits());
        for (int session = 0; session < 60; session++) {
            due.is("18: of the session " + session, Due.one(session % 2 == 0), Due.one(x.isLive(session)));
            due.is("19: of the session " + session, Due.one(session % 2 == 0), Due.one(x.isLiveByAudit(session)));
        }
    }
}
