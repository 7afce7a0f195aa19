/** What is asked of a court in which there is none of it, and what comes of the first one. */
public final class EmptinessTest {
    private static final Due due = new Due();
    private static final Sides sides = new Sides(due);
    private static final int NONE = KeyringCourt.NONE, LOW = KeyringCourt.LOW, UNASKED = KeyringCourt.UNASKED;
    private static final int GRANT = KeyringCourt.GRANT, DENY = KeyringCourt.DENY;
    private static final int PASSWORD = KeyringCourt.PASSWORD, CODE = KeyringCourt.CODE, STICK = KeyringCourt.STICK;
    private static final int GRANTED = KeyringCourt.GRANTED, DENIED = KeyringCourt.DENIED;
    private static final int GOOD = KeyringCourt.GOOD, NO_SCOPE = KeyringCourt.NO_SCOPE;
    private static final Sides.Maker NEW = KeyringCourt::new, OPEN = Courts::open;

    public static void main(String[] args) {
        newObject();
        emptyDraft();
        noVersion();
        noFactors();
        noAttempt();
        noSession();
        nothingShown();
        noConsent();
        noScopes();
        noCodeNoFamilyNoToken();
        noKeyThatWaits();
        nothingToTell();
        noRecovery();
        noLink();
        noPoints();
        nobodyToLeave();
        noEntries();
        due.end("EmptinessTest");
    }

    private static void newObject() {
        for (int person = 0; person < 6; person++) {
            for (int factor = 0; factor < 3; factor++) {
                sides.answers("1: without factors", NEW, KeyringCourt.ABSENT, "factor", person, factor);
            }
            sides.answers("1: no helper", NEW, true, "helper", person);
            sides.answers("1: there, and no session of it", NEW, 0, "leave", person);
            sides.answers("1: no open recovery", NEW, 0, "recover", person);
            sides.answers("1: no link", NEW, NONE, "link", person, NONE);
            sides.refused("1: no link", NEW, Calls.STATE, "foreign", person);
        }
        sides.answers("1: the minute 0", NEW, 0, "pass", 1);
        KeyringCourt x = new KeyringCourt();
        x.emergency();
        due.is("1: an entry of the minute 0", (31 * 7 + 501) % 65521, x.sum());
        for (int service = 0; service < 4; service++) {
            sides.answers("27: no level needed", NEW, 0, "need", service, 6);
            sides.answers("39: a line is up, and goes down", NEW, 0, "line", service);
        }
    }

    private static void emptyDraft() {
        sides.answers("6: no steps", NEW, 0, "clear");
        sides.refused("7: no steps", NEW, Calls.STATE, "publish");
        sides.answers("5: the first step", NEW, 0, "step", GRANT, 0, 0, 0, 0);
        KeyringCourt x = Courts.open();
        due.is("6: the draft of what was published", 0, x.clear());
        due.state("7: the draft of what was published", x, () -> x.publish());
        x.step(DENY, 0, 0, 0, 0);
        due.is("6: one step", 1, x.clear());
        due.is("6: none any more", 0, x.clear());
        due.state("7: the draft that was emptied", x, () -> x.publish());
        KeyringCourt y = new KeyringCourt();
        y.step(DENY, 0, 0, 0, 0);
        due.is("7: a draft of one step", 0, y.publish());
    }

    private static void noVersion() {
        sides.refused("10: no version", NEW, Calls.STATE, "begin", 0, 0, 0);
        sides.refused("8: no version", NEW, Calls.INDEX, "weakest", 0);
        sides.answers("10: one version", OPEN, 0, "begin", 0, 0, 0);
        sides.answers("8: one version", OPEN, 0, "weakest", 0);
        sides.refused("10: a draft is none", EmptinessTest::withDraft, Calls.STATE, "begin", 0, 0, 0);
        sides.refused("8: a draft is none", EmptinessTest::withDraft, Calls.INDEX, "weakest", 0);
    }

    private static KeyringCourt withDraft() {
        KeyringCourt x = new KeyringCourt();
        x.step(GRANT, 0, 0, 0, 0);
        return x;
    }

    private static void noFactors() {
        KeyringCourt x = Courts.asking(PASSWORD, 1);
        x.begin(0, 0, 0);
        due.is("13: it asks for what is absent", PASSWORD, x.asked(0));
        due.is("11: what is absent is answered wrong", DENIED, x.answer(0, true, 1));
        due.is("4: it stays absent", KeyringCourt.ABSENT, x.factor(0, PASSWORD));
        due.is("15: that is noted", 4, x.risk(0));
        due.is("49: but no entry", 0, x.audits());
        KeyringCourt y = Courts.open();
        y.recover(0);
        y.vouch(0, Courts.signIn(y, 1, STICK));
        y.vouch(0, Courts.signIn(y, 2, STICK));
        y.pass(60);
        due.is("45: a person without factors and sessions", 0, y.finish(0));
        due.is("45: has a PASSWORD", KeyringCourt.READY, y.factor(0, PASSWORD));
    }

    private static void noAttempt() {
        for (String look : new String[] {"state", "asked", "sessionOf", "risk", "trialRisk"}) {
            sides.refused("no attempt", OPEN, Calls.INDEX, look, 0);
        }
        sides.refused("11: no attempt", OPEN, Calls.INDEX, "answer", 0, true, 0);
        KeyringCourt x = Courts.open();
        x.step(DENY, 0, 0, 0, 0);
        x.publish();
        x.begin(0, 0, 0);
        due.is("12: denied at once", DENIED, x.state(0));
        due.is("13: it asks for none", NONE, x.asked(0));
        due.is("14: it has none", NONE, x.sessionOf(0));
        due.is("17: none has begun", 0, x.sessions());
    }

    private static void noSession() {
        sides.answers("17: none", OPEN, 0, "sessions");
        sides.answers("2: none is ended", OPEN, 0, "pass", 600);
        for (String look : new String[] {"isLive", "isLiveByAudit", "level", "signOut"}) {
            sides.refused("no session", OPEN, Calls.INDEX, look, 0);
        }
        sides.refused("21: no session", OPEN, Calls.INDEX, "stepUp", 0, 0, true, 0);
        sides.refused("24: no session", OPEN, Calls.INDEX, "act", 0, 0);
        sides.refused("28: no session", OPEN, Calls.INDEX, "authorize", 0, 0, 0, 1);
        sides.answers("48: none is ended", OPEN, 0, "leave", 0);
        sides.answers("22: nothing belongs to it", () -> Courts.withSessions(1), 1, "signOut", 0);
        KeyringCourt x = Courts.withSessions(1);
        x.signOut(0);
        due.is("48: none is live", 0, x.leave(0));
        due.is("2: none is live", 0, x.pass(600));
        due.is("49: it is ended once", 2, x.audits());
    }

    private static KeyringCourt withNothingShown() {
        KeyringCourt x = Courts.open();
        x.begin(0, 0, 0);
        x.helper(0);
        x.recover(1);
        x.consent(0, 0, 15);
        x.need(1, 1);
        return x;
    }

    private static void nothingShown() {
        Sides.Maker maker = EmptinessTest::withNothingShown;
        sides.answers("20: level 0", maker, 0, "level", 0);
        sides.answers("28: level 0 of 0", maker, 0, "authorize", 0, 0, 0, 1);
        sides.answers("28: level 0 of 1", maker, LOW, "authorize", 0, 0, 1, 1);
        sides.refused("24: level 0", maker, Calls.STATE, "act", 0, 1);
        sides.refused("43: level 0", maker, Calls.STATE, "vouch", 0, 0);
        sides.answers("8: GRANT with nothing shown", OPEN, 0, "weakest", 0);
        sides.answers("8: no GRANT", () -> Courts.asking(PASSWORD, 1), 1, "weakest", 0);
        KeyringCourt x = new KeyringCourt();
        x.step(KeyringCourt.ASK, STICK, 3, NONE, NONE);
        x.publish();
        due.is("8: one cannot come to GRANT", NONE, x.weakest(0));
    }

    private static void noConsent() {
        KeyringCourt x = Courts.open();
        int session = Courts.signIn(x, 0);
        due.is("25: none", 0, x.consent(0, 1, 0));
        due.is("25: none for all", 0, x.consent(NONE, 1, 0));
        due.is("28: none", UNASKED, x.authorize(session, 1, 1, 1));
        due.is("26: none, and no family", 0, x.withdraw(0, 1));
        due.is("25: one", 1, x.consent(0, 1, 1));
        due.is("28: one", 0, x.authorize(session, 1, 1, 1));
        due.is("26: no family yet", 0, x.withdraw(0, 1));
        due.is("25: withdrawn", 0, x.consent(0, 1, 0));
        x.consent(NONE, 2, 2);
        x.redeem(x.authorize(session, 2, 1, 2));
        due.is("26: no consent of the person, but a family", 1, x.withdraw(0, 2));
        due.is("25: that for all stays", 2, x.consent(NONE, 2, 0));
    }

    private static void noScopes() {
        Sides.Maker busy = Courts::busy;
        sides.answers("25: no scopes more", busy, 5, "consent", 2, 3, 0);
        sides.answers("25: no scopes at all", busy, 0, "consent", 0, 3, 0);
        sides.answers("25: no scopes more, for all", busy, 15, "consent", NONE, 3, 0);
        sides.refused("28: no scopes", busy, Calls.ARGUMENT, "authorize", 0, 1, 2, 0);
        sides.refused("33: no scopes", busy, Calls.ARGUMENT, "exchange", 0, 2, 0);
        for (int scope = 0; scope < 4; scope++) {
            KeyringCourt x = Courts.open();
            int session = Courts.signIn(x, 0);
            x.consent(0, 0, 1 << scope);
            due.is("28: one scope", 0, x.authorize(session, 0, 0, 1 << scope));
            due.is("28: another one besides", UNASKED, x.authorize(session, 0, 0, 1 << scope | 1 << (scope + 1) % 4));
            x.redeem(0);
            for (int checked = 0; checked < 4; checked++) {
                due.is("40: the scope " + checked + " of a token of " + scope, checked == scope ? GOOD : NO_SCOPE, x.check(0, 0, checked));
            }
            int others = 15 - (1 << scope);
            due.argument("33: scopes that it does not have", x, () -> x.exchange(0, 0, others));
            due.is("33: the one that it has", 1, x.exchange(0, 0, 1 << scope));
        }
    }

    private static void noCodeNoFamilyNoToken() {
        sides.refused("29: no code", OPEN, Calls.INDEX, "redeem", 0);
        for (String look : new String[] {"isGood", "tokenOf", "token", "lag"}) {
            sides.refused("no family and no token", EmptinessTest::withCode, Calls.INDEX, look, 0);
        }
        sides.refused("30: a code is no family", EmptinessTest::withCode, Calls.INDEX, "refresh", 0, 0);
        sides.refused("33: no token", EmptinessTest::withCode, Calls.INDEX, "exchange", 0, 0, 1);
        sides.refused("40: no token", EmptinessTest::withCode, Calls.INDEX, "check", 0, 0, 0);
        sides.answers("29: the first family", EmptinessTest::withCode, 0, "redeem", 0);
        sides.answers("26: no family", EmptinessTest::withCode, 0, "withdraw", 0, 0);
    }

    private static KeyringCourt withCode() {
        KeyringCourt x = Courts.open();
        x.consent(0, 0, 15);
        x.authorize(Courts.signIn(x, 0), 0, 0, 15);
        return x;
    }

    private static void noKeyThatWaits() {
        KeyringCourt x = new KeyringCourt();
        x.pass(600);
        due.is("37: none waits, none comes to sign", 0, x.signing());
        due.yes("38: none is retired", x.isPublished(0));
        due.is("49: no entry", 0, x.audits());
        due.is("36: none waits: the next key", 1, x.emergency());
        due.is("36: again", 2, x.emergency());
        x.pass(600);
        due.is("37: none waits any more", 2, x.signing());
        due.is("35: the next one", 3, x.turn());
        due.is("36: it waits", 3, x.emergency());
        x.pass(600);
        due.is("37: it does not come to sign twice", 3, x.audits());
        due.index("38: no other key", x, () -> Due.one(x.isPublished(4)));
    }

    private static void nothingToTell() {
        KeyringCourt x = Courts.open();
        for (int service = 0; service < 4; service++) {
            due.is("39: down, with no family", 0, x.line(service));
            due.is("39: up, with no family", 0, x.line(service));
        }
        Courts.family(x, Courts.signIn(x, 0), 0, 1);
        x.line(1);
        due.is("39: up, with no family that is ended", 0, x.line(1));
        due.is("41: good", 0, x.lag(0));
        x.line(1);
        x.redeem(0);
        due.is("39: up, with one", 1, x.line(1));
        x.line(1);
        due.is("39: up, with none that it was not told of", 0, x.line(1));
    }

    private static void noRecovery() {
        sides.refused("43: no recovery", () -> Courts.withSessions(1), Calls.INDEX, "vouch", 0, 0);
        sides.refused("44: no recovery", () -> Courts.withSessions(1), Calls.INDEX, "stop", 0, 0);
        sides.refused("45: no recovery", OPEN, Calls.INDEX, "finish", 0);
        KeyringCourt x = Courts.withSessions(1);
        x.recover(0);
        due.is("44: none has vouched", 0, x.stop(0, 0));
    }

    private static void noLink() {
        sides.refused("47: not linked", OPEN, Calls.STATE, "foreign", 0);
        sides.answers("46: no link to take away", OPEN, NONE, "link", 0, NONE);
        KeyringCourt x = Courts.open();
        x.link(0, 3);
        x.link(0, NONE);
        due.state("47: not linked any more", x, () -> x.foreign(0));
        due.is("46: none before", NONE, x.link(0, 4));
        due.is("47: linked", 0, x.foreign(0));
    }

    private static void noPoints() {
        for (int rule = 0; rule < 3; rule++) {
            sides.answers("9: none on trial", OPEN, NONE, "points", rule, NONE, true);
            sides.answers("9: points at first", OPEN, rule == 0 ? 2 : 1, "points", rule, 0, false);
        }
        KeyringCourt x = Courts.open();
        for (int rule = 0; rule < 3; rule++) {
            x.points(rule, 0, true);
        }
        x.begin(0, 0, 0);
        x.leave(0);
        x.leave(0);
        x.begin(1, 0, 0);
        due.is("15: what is granted is known", 0, x.risk(1));
        KeyringCourt y = Courts.asking(CODE, 3);
        for (int rule = 0; rule < 3; rule++) {
            y.points(rule, 0, rule == 1);
        }
        y.begin(0, 0, 0);
        y.answer(0, true, 0);
        due.is("15: no points but NEW_PLACE", 1, y.risk(0));
        due.is("16: 0 on trial is not none", 0, y.trialRisk(0));
        y.points(1, NONE, true);
        due.is("16: none on trial", 1, y.trialRisk(0));
    }

    private static void nobodyToLeave() {
        KeyringCourt x = new KeyringCourt();
        due.is("48: leaves", 0, x.leave(5));
        due.is("48: joins", NONE, x.leave(5));
        due.is("48: leaves again", 0, x.leave(5));
        due.is("49: no entry", 0, x.audits());
    }

    private static void noEntries() {
        sides.answers("49: none", NEW, 0, "audits");
        sides.answers("51: 7", NEW, 7, "sum");
        sides.answers("52: of none", NEW, 7, "sumAnew", 0);
        sides.answers("52: of none, where there are some", Courts::busy, 7, "sumAnew", 0);
        sides.refused("50: none", NEW, Calls.INDEX, "audit", 0);
        sides.refused("52: of one", NEW, Calls.INDEX, "sumAnew", 1);
        sides.answers("50: the first one", () -> Courts.withSessions(1), 0, "audit", 0);
        sides.answers("52: of one", () -> Courts.withSessions(1), 31 * 7, "sumAnew", 1);
        sides.answers("18: granted with no factor", () -> Courts.withSessions(1), true, "isLiveByAudit", 0);
        due.is("12: GRANT at once", GRANTED, grantedAtOnce());
    }

    private static int grantedAtOnce() {
        KeyringCourt x = Courts.open();
        return x.state(x.begin(0, 0, 0));
    }
}
