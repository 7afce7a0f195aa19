/** Each time of the document: in its last minute, and in the one behind it; begun in the minute 0, and later. */
public final class TimesTest {
    private static final Due due = new Due();
    private static final Sides sides = new Sides(due);
    private static final int NONE = KeyringCourt.NONE, LOW = KeyringCourt.LOW, UNASKED = KeyringCourt.UNASKED;
    private static final int PASSWORD = KeyringCourt.PASSWORD, CODE = KeyringCourt.CODE, STICK = KeyringCourt.STICK;
    private static final int GRANTED = KeyringCourt.GRANTED, DENIED = KeyringCourt.DENIED;
    private static final int GOOD = KeyringCourt.GOOD, TOO_OLD = KeyringCourt.TOO_OLD, NO_KEY = KeyringCourt.NO_KEY;

    public static void main(String[] args) {
        thirtyMinutesIdle();
        usesOfASession();
        noUsesOfASession();
        idleSessionsOneByOne();
        minutesOneByOne();
        minutes480();
        minutes480OfOneThatBelongs();
        shown120();
        shown120ByCalls();
        wrongs60();
        codes5();
        tokens10();
        twoTabs1();
        keys5();
        keys20();
        keysInOneMinute();
        caches15();
        recoveries60();
        inTheMinute30000();
        manyInOneMinute();
        due.end("TimesTest");
    }

    private static void pass(KeyringCourt x, int minutes) {
        for (int left = minutes; left > 0; left -= 600) {
            x.pass(Math.min(600, left));
        }
    }

    /** The minutes in which things begin here. */
    private static final int[] STARTS = {0, 1, 77, 29000};

    private static KeyringCourt openAt(int minute) {
        KeyringCourt x = Courts.open();
        pass(x, minute);
        return x;
    }

    // ---- sessions

    /** The session 0, begun in that minute, so many minutes later. */
    private static KeyringCourt idle(int start, int minutes) {
        KeyringCourt x = openAt(start);
        Courts.signIn(x, 0);
        pass(x, minutes);
        return x;
    }

    private static void thirtyMinutesIdle() {
        for (int start : STARTS) {
            sides.answers("18: 30 minutes ago", () -> idle(start, 30), true, "isLive", 0);
            sides.answers("19: 30 minutes ago", () -> idle(start, 30), true, "isLiveByAudit", 0);
            sides.answers("2: 31 minutes ago", () -> idle(start, 30), 1, "pass", 1);
            sides.answers("18: 31 minutes ago", () -> idle(start, 31), false, "isLive", 0);
            sides.answers("19: 31 minutes ago", () -> idle(start, 31), false, "isLiveByAudit", 0);
            sides.answers("2: ended before", () -> idle(start, 31), 0, "pass", 1);
            sides.answers("22: 30 minutes ago", () -> idle(start, 30), 1, "signOut", 0);
            sides.refused("22: 31 minutes ago", () -> idle(start, 31), Calls.STATE, "signOut", 0);
        }
        sides.answers("31: a family of it, 30 minutes ago", () -> idleWithFamily(30), true, "isGood", 0);
        sides.answers("31: a family of it, 31 minutes ago", () -> idleWithFamily(31), false, "isGood", 0);
        sides.answers("50: behind its session", () -> idleWithFamily(31), 3000, "audit", 3);
        KeyringCourt x = idle(5, 600);
        due.is("51: it is ended in the minute 36, however many pass at once", (31 * (31 * 7 + 5) + 100 + 36) % 65521, x.sum());
    }

    private static KeyringCourt idleWithFamily(int minutes) {
        KeyringCourt x = idle(5, 0);
        Courts.family(x, 0, 0, 0);
        pass(x, minutes);
        return x;
    }

    private interface Use {
        void of(KeyringCourt court);
    }

    /** Sessions of the persons 0 (with a PASSWORD), 1 (a helper) and 2, with a family of the first and a code. */
    private static KeyringCourt used(int minutes, Use use) {
        KeyringCourt x = openAt(3);
        Courts.signIn(x, 0, PASSWORD);
        Courts.signIn(x, 1, STICK);
        Courts.signIn(x, 2);
        x.helper(1);
        Courts.family(x, 0, 1, 2);
        x.need(3, 6);
        x.recover(0);
        x.recover(2);
        pass(x, 26);
        x.authorize(0, 1, 2, 1);
        x.refresh(0, 0);
        x.stepUp(1, PASSWORD, true, 0);
        x.stepUp(2, PASSWORD, true, 0);
        pass(x, 1);
        use.of(x);
        pass(x, minutes);
        return x;
    }

    private static void usedBy(String what, int session, Use use) {
        sides.answers("2: used by " + what + " 30 minutes ago", () -> used(30, use), true, "isLive", session);
        sides.answers("2: used by " + what + " 31 minutes ago", () -> used(31, use), false, "isLive", session);
    }

    private static void notUsedBy(String what, int session, Use use) {
        sides.answers("2: 30 minutes ago, then " + what, () -> used(29, use), true, "isLive", session);
        sides.answers("2: 31 minutes ago, then " + what, () -> used(30, use), false, "isLive", session);
    }

    private static void usesOfASession() {
        usedBy("a right answer", 0, x -> x.stepUp(0, PASSWORD, true, 0));
        usedBy("a wrong answer", 0, x -> x.stepUp(0, PASSWORD, false, 0));
        usedBy("an answer for what is absent", 0, x -> x.stepUp(0, CODE, true, 0));
        usedBy("a code", 0, x -> due.is("28: a code", 2, x.authorize(0, 1, 2, 1)));
        usedBy("UNASKED", 0, x -> due.is("28: UNASKED", UNASKED, x.authorize(0, 2, 2, 1)));
        usedBy("LOW", 0, x -> due.is("28: LOW", LOW, x.authorize(0, 1, 3, 1)));
        usedBy("a refresh", 0, x -> due.is("30: refreshed", 2, x.refresh(0, 1)));
    }

    private static void noUsesOfASession() {
        notUsedBy("nothing", 0, x -> { });
        notUsedBy("two tabs", 0, x -> due.is("30: two tabs", 1, x.refresh(0, 0)));
        notUsedBy("to redeem", 0, x -> due.is("29: redeemed", 1, x.redeem(1)));
        notUsedBy("to redeem again", 0, x -> due.is("29: again", NONE, x.redeem(0)));
        notUsedBy("to exchange", 0, x -> due.is("33: exchanged", 2, x.exchange(1, 0, 1)));
        notUsedBy("to exchange LOW", 0, x -> due.is("33: LOW", LOW, x.exchange(1, 3, 1)));
        notUsedBy("a check", 0, x -> due.is("40: checked", GOOD, x.check(2, 1, 0)));
        notUsedBy("to act", 1, x -> due.is("24: acted", 3, x.act(1, 3)));
        notUsedBy("to vouch", 1, x -> due.is("43: vouched", 3, x.vouch(0, 1)));
        notUsedBy("to stop", 2, x -> due.is("44: stopped", 0, x.stop(1, 2)));
        notUsedBy("another sign-in of the person", 0, x -> x.begin(0, 0, 0));
        notUsedBy("a refused call", 0, x -> due.argument("21: refused", x, () -> x.stepUp(0, 3, true, 0)));
        notUsedBy("a refused call", 0, x -> due.argument("28: refused", x, () -> x.authorize(0, 1, 1, 0)));
        notUsedBy("a refused call", 0, x -> due.argument("30: refused", x, () -> x.refresh(0, 2)));
    }

    private static void idleSessionsOneByOne() {
        KeyringCourt x = openAt(4);
        for (int person = 0; person < 4; person++) {
            Courts.signIn(x, person);
            x.pass(1);
        }
        x.stepUp(1, PASSWORD, true, 0);
        due.is("2: the sessions 0 and 2 in their minutes", 2, x.pass(29));
        due.is("50: the first that is ended", 1000, x.audit(4));
        due.is("50: the second", 1002, x.audit(5));
        due.is("2: the session 3", 1, x.pass(1));
        due.is("2: the session 1", 1, x.pass(1));
        due.is("50: the last", 1001, x.audit(7));
    }

    private static void minutesOneByOne() {
        for (int minutes = 1; minutes <= 45; minutes++) {
            KeyringCourt once = Courts.busy();
            KeyringCourt oneByOne = Courts.busy();
            int ended = once.pass(minutes);
            int count = 0;
            for (int i = 0; i < minutes; i++) {
                count += oneByOne.pass(1);
            }
            due.is("2: " + minutes + " minutes at once and one by one", count, ended);
            due.yes("2: " + minutes + " minutes at once and one by one", Seen.of(once).equals(Seen.of(oneByOne)));
        }
    }

    /** The session 0 begun in that minute and used again and again, so many minutes later. */
    private static KeyringCourt busy(int start, int minutes) {
        KeyringCourt x = openAt(start);
        Courts.signIn(x, 0);
        Courts.passUsing(x, minutes, 0);
        return x;
    }

    private static void minutes480() {
        for (int start : STARTS) {
            sides.answers("18: it began 480 minutes ago", () -> busy(start, 480), true, "isLive", 0);
            sides.answers("2: it began 481 minutes ago", () -> busy(start, 480), 1, "pass", 1);
            sides.answers("2: it began 479 minutes ago", () -> busy(start, 478), 0, "pass", 1);
        }
        KeyringCourt x = busy(7, 480);
        x.pass(1);
        due.is("51: it is ended in the minute 488", (31 * (31 * 7 + 7) + 100 + 488) % 65521, x.sum());
    }

    /** The helper's session 0 begins in the minute 0, the session 1 that belongs to it 10 minutes later. */
    private static KeyringCourt acting(int minutes) {
        KeyringCourt x = Courts.open();
        Courts.signIn(x, 0, STICK);
        x.helper(0);
        x.pass(10);
        x.act(0, 1);
        Courts.passUsing(x, minutes, 0);
        return x;
    }

    private static void minutes480OfOneThatBelongs() {
        sides.answers("18: it was used last 30 minutes ago", () -> acting(30), true, "isLive", 1);
        sides.answers("2: it alone was used last 31 minutes ago", () -> acting(30), 1, "pass", 1);
        sides.answers("18: the helper's goes on", () -> acting(31), true, "isLive", 0);
        KeyringCourt x = Courts.open();
        Courts.signIn(x, 0, STICK);
        x.helper(0);
        x.pass(10);
        x.act(0, 1);
        Courts.passUsing(x, 470, 0, 1);
        due.yes("18: the helper's began 480 minutes ago", x.isLive(0));
        due.is("2: 481 minutes ago it is ended, with the one that belongs to it", 2, x.pass(1));
    }

    /** PASSWORD, CODE and STICK shown in that minute in the session 0, so many minutes later. */
    private static KeyringCourt shown(int start, int minutes, int... factors) {
        KeyringCourt x = openAt(start);
        Courts.signIn(x, 0, factors);
        x.helper(0);
        x.recover(1);
        x.need(3, 3);
        Courts.family(x, 0, 1, 2);
        Courts.passUsing(x, minutes - 5, 0);
        x.refresh(0, 0);
        x.pass(5);
        return x;
    }

    private static void shown120() {
        for (int start : STARTS) {
            sides.answers("20: 120 minutes ago", () -> shown(start, 120, PASSWORD, CODE, STICK), 6, "level", 0);
            sides.answers("20: 121 minutes ago", () -> shown(start, 121, PASSWORD, CODE, STICK), 0, "level", 0);
        }
        for (int factor = PASSWORD; factor <= STICK; factor++) {
            int of = factor;
            sides.answers("20: 120 minutes ago", () -> shown(9, 120, of), factor + 1, "level", 0);
            sides.answers("20: 121 minutes ago", () -> shown(9, 121, of), 0, "level", 0);
            sides.answers("21: shown again", () -> shown(9, 121, of), factor + 1, "stepUp", 0, factor, true, 2);
            sides.answers("21: a wrong answer shows nothing", () -> shown(9, 121, of), 0, "stepUp", 0, factor, false, 2);
        }
    }

    private static void shown120ByCalls() {
        Sides.Maker last = () -> shown(9, 120, STICK);
        Sides.Maker over = () -> shown(9, 121, STICK);
        sides.answers("24: a level of 3 still", last, 1, "act", 0, 1);
        sides.refused("24: a level of 0", over, Calls.STATE, "act", 0, 1);
        sides.answers("43: a level of 3 still", last, 3, "vouch", 0, 0);
        sides.refused("43: a level of 0", over, Calls.STATE, "vouch", 0, 0);
        sides.answers("28: a level of 3 still", last, 1, "authorize", 0, 1, 3, 1);
        sides.answers("28: a level of 0", over, LOW, "authorize", 0, 1, 3, 1);
        sides.answers("33: a level of 3 still", last, 2, "exchange", 1, 3, 1);
        sides.answers("33: a level of 0", over, LOW, "exchange", 1, 3, 1);
        KeyringCourt x = shown(9, 120, STICK);
        x.act(0, 1);
        due.is("24: the copy has the minute, too", 3, x.level(1));
        x.pass(1);
        due.is("24: 121 minutes ago", 0, x.level(1));
    }

    // ---- wrong answers

    /** An attempt of the person 0, who answered wrong in that minute, so many minutes later. */
    private static KeyringCourt wrong(int start, int minutes) {
        KeyringCourt x = Courts.asking(PASSWORD, 3);
        x.step(KeyringCourt.RISKY, 4, 0, 1, NONE);
        x.step(KeyringCourt.GRANT, 0, 0, NONE, NONE);
        pass(x, start);
        x.begin(0, 0, 0);
        x.answer(0, false, 0);
        x.publish();
        pass(x, minutes);
        return x;
    }

    private static void wrongs60() {
        for (int start : STARTS) {
            for (int minutes : new int[] {0, 1, 58, 59, 60, 61}) {
                Sides.Maker maker = () -> wrong(start, minutes);
                int risk = minutes < 60 ? 4 : 3;
                sides.answers("15: wrong " + minutes + " minutes ago", maker, risk, "risk", 0);
                sides.answers("16: wrong " + minutes + " minutes ago", maker, risk, "trialRisk", 0);
                KeyringCourt x = maker.court();
                due.is("10: RISKY, wrong " + minutes + " minutes ago", minutes < 60 ? GRANTED : DENIED, x.state(x.begin(0, 0, 0)));
            }
        }
        KeyringCourt x = wrong(0, 20);
        x.answer(0, false, 0);
        x.pass(39);
        due.is("15: both count", 5, x.risk(0));
        x.pass(1);
        due.is("15: the first does not any more", 4, x.risk(0));
        x.pass(20);
        due.is("15: nor does the second", 3, x.risk(0));
        wrongsBehindOthers();
    }

    private static void wrongsBehindOthers() {
        KeyringCourt x = wrong(0, 10);
        int session = Courts.signIn(x, 0);
        Courts.repeat(3, () -> x.stepUp(session, STICK, true, 1));
        due.is("15: four count as three", 6, x.risk(0));
        x.pass(50);
        due.is("15: three are of the last 60 minutes still", 6, x.risk(0));
        x.pass(9);
        due.is("15: three, 59 minutes ago", 6, x.risk(0));
        x.pass(1);
        due.is("15: none of the last 60 minutes", 3, x.risk(0));
    }

    // ---- codes, tokens, families

    private static KeyringCourt withCode(int start, int minutes) {
        KeyringCourt x = openAt(start);
        Courts.signIn(x, 0);
        x.consent(0, 1, 15);
        x.authorize(0, 1, 2, 3);
        pass(x, minutes);
        return x;
    }

    private static void codes5() {
        for (int start : STARTS) {
            for (int minutes = 0; minutes <= 7; minutes++) {
                int later = minutes;
                sides.answers("29: " + minutes + " minutes behind its making", () -> withCode(start, later), minutes <= 5 ? 0 : NONE, "redeem", 0);
            }
        }
        KeyringCourt x = withCode(0, 6);
        due.is("29: nothing comes of it", NONE, x.redeem(0));
        due.index("31: no family", x, () -> Due.one(x.isGood(0)));
        due.is("49: no entry", 1, x.audits());
        KeyringCourt y = withCode(0, 5);
        y.redeem(0);
        y.pass(1);
        due.is("29: once it has made one, however late", NONE, y.redeem(0));
        due.no("31: its family is ended", y.isGood(0));
    }

    /** The token 0 of the client 1 and the audience 2, so many minutes later; the line of the service 2 is down. */
    private static KeyringCourt withToken(int start, int minutes) {
        KeyringCourt x = withCode(start, 0);
        x.redeem(0);
        x.line(2);
        pass(x, minutes);
        return x;
    }

    private static KeyringCourt withEndedToken(int start, int minutes) {
        KeyringCourt x = withToken(start, minutes);
        x.redeem(0);
        return x;
    }

    private static void tokens10() {
        for (int start : STARTS) {
            int token = 1000 * (start + 10) + 120;
            sides.answers("34: 10 minutes behind its making", () -> withToken(start, 0), token, "token", 0);
            sides.answers("34: later, too", () -> withToken(start, 11), token, "token", 0);
            sides.answers("40: its last minute", () -> withToken(start, 10), GOOD, "check", 2, 0, 0);
            sides.answers("40: the one behind it", () -> withToken(start, 11), TOO_OLD, "check", 2, 0, 0);
            sides.answers("33: its last minute", () -> withToken(start, 10), 1, "exchange", 0, 0, 1);
            sides.refused("33: the one behind it", () -> withToken(start, 11), Calls.STATE, "exchange", 0, 0, 1);
            for (int minutes = 0; minutes <= 12; minutes++) {
                int later = minutes;
                sides.answers("41: its family is ended", () -> withEndedToken(start, later), Math.max(0, 11 - minutes), "lag", 0);
                sides.answers("41: its family is good", () -> withToken(start, later), 0, "lag", 0);
            }
        }
        KeyringCourt x = withToken(3, 4);
        x.refresh(0, 0);
        due.is("34: one of a refresh, 10 minutes behind that", 17120, x.token(1));
        x.pass(5);
        x.exchange(0, 3, 1);
        due.is("34: one of an exchange has the same end", 13231, x.token(2));
        x.exchange(2, 3, 1);
        due.is("34: and one of that", 13332, x.token(3));
        x.pass(1);
        due.is("40: their last minute", GOOD, x.check(3, 3, 0));
        x.pass(1);
        due.is("40: the one behind it", TOO_OLD, x.check(3, 3, 0));
        due.is("40: that of the refresh is not over", GOOD, x.check(2, 1, 0));
    }

    private static KeyringCourt refreshed(int start, int minutes) {
        KeyringCourt x = withToken(0, 0);
        pass(x, start);
        x.refresh(0, 0);
        pass(x, minutes);
        return x;
    }

    private static void twoTabs1() {
        for (int start : new int[] {0, 1, 20}) {
            sides.answers("30: in this minute", () -> refreshed(start, 0), 1, "refresh", 0, 0);
            sides.answers("30: in the minute ahead of this", () -> refreshed(start, 1), 1, "refresh", 0, 0);
            sides.answers("30: later", () -> refreshed(start, 2), NONE, "refresh", 0, 0);
            sides.answers("30: much later", () -> refreshed(start, 25), NONE, "refresh", 0, 0);
            sides.answers("30: with its number, later", () -> refreshed(start, 2), 2, "refresh", 0, 1);
        }
        KeyringCourt x = refreshed(4, 1);
        x.refresh(0, 0);
        due.is("32: two tabs make no token", 1, x.tokenOf(0));
        due.yes("31: nor an end", x.isGood(0));
        x.pass(1);
        due.is("30: it became so two minutes ago, whatever came since", NONE, x.refresh(0, 0));
        due.no("31: it is stolen", x.isGood(0));
        KeyringCourt y = refreshed(4, 0);
        y.refresh(0, 1);
        due.is("30: a lower one than 1 below", NONE, y.refresh(0, 0));
        due.no("31: it is stolen in the very minute", y.isGood(0));
        KeyringCourt z = refreshed(4, 5);
        z.refresh(0, 1);
        z.pass(1);
        due.is("30: 1 below the number that became so then", 2, z.refresh(0, 1));
    }

    // ---- keys, caches

    private static KeyringCourt turned(int start, int minutes) {
        KeyringCourt x = openAt(start);
        x.turn();
        pass(x, minutes);
        return x;
    }

    private static void keys5() {
        for (int start : STARTS) {
            sides.answers("37: 4 minutes later", () -> turned(start, 4), 0, "signing");
            sides.answers("37: 5 minutes later", () -> turned(start, 5), 1, "signing");
            sides.answers("37: much later", () -> turned(start, 600), 1, "signing");
            sides.answers("49: 4 minutes later", () -> turned(start, 4), 0, "audits");
            sides.answers("50: 5 minutes later", () -> turned(start, 5), 5001, "audit", 0);
            sides.answers("51: in that minute, however many pass at once", () -> turned(start, 600), (31 * 7 + 501 + start + 5) % 65521, "sum");
            sides.refused("35: it waits 4 minutes later", () -> turned(start, 4), Calls.STATE, "turn");
            sides.answers("35: it does not 5 minutes later", () -> turned(start, 5), 2, "turn");
            sides.answers("36: one that waits, 4 minutes later", () -> turned(start, 4), 1, "emergency");
            sides.answers("36: none waits, 5 minutes later", () -> turned(start, 5), 2, "emergency");
            sides.answers("38: it is published at once", () -> turned(start, 0), true, "isPublished", 1);
        }
    }

    private static void keys20() {
        for (int start : STARTS) {
            sides.answers("38: 19 minutes behind its place", () -> turned(start, 24), true, "isPublished", 0);
            sides.answers("38: 20 minutes behind its place", () -> turned(start, 25), false, "isPublished", 0);
            sides.answers("38: much later", () -> turned(start, 600), false, "isPublished", 0);
            sides.answers("38: the one that signs", () -> turned(start, 600), true, "isPublished", 1);
        }
        KeyringCourt x = turned(0, 2);
        x.emergency();
        due.no("38: withdrawn, it is not published at once", x.isPublished(0));
        x.pass(600);
        due.yes("38: the one that came in its place is not retired", x.isPublished(1));
    }

    private static void keysInOneMinute() {
        KeyringCourt x = new KeyringCourt();
        x.turn();
        x.pass(20);
        x.turn();
        due.yes("38: the key 0 in the minute 24", x.pass(4) == 0 && x.isPublished(0));
        x.pass(1);
        due.no("38: the key 0 is retired in the minute 25", x.isPublished(0));
        due.is("37: in which the key 2 comes to sign", 2, x.signing());
        due.yes("38: the key 1 in the minute 44", x.pass(19) == 0 && x.isPublished(1));
        x.pass(1);
        due.no("38: the key 1 is retired in the minute 45", x.isPublished(1));
    }

    /** A cache fetched in that minute, that has the key 0 or a later one, which is then withdrawn; so many minutes later. */
    private static KeyringCourt cached(int fetched, int minutes) {
        KeyringCourt x = Courts.open();
        if (fetched > 0) {
            x.emergency();
            pass(x, fetched);
            Courts.family(x, Courts.signIn(x, 0), 2, 2);
            x.check(2, 0, 0);
        }
        pass(x, minutes - 1);
        Courts.family(x, Courts.signIn(x, 0), 2, 2);
        x.emergency();
        x.pass(1);
        return x;
    }

    private static void caches15() {
        for (int fetched : new int[] {0, 1, 50, 29000}) {
            int token = fetched == 0 ? 0 : 1;
            for (int minutes : new int[] {1, 14, 15, 16, 17, 40}) {
                int outcome = minutes <= 15 ? GOOD : NO_KEY;
                sides.answers("40: fetched " + minutes + " minutes ago", () -> cached(fetched, minutes), outcome, "check", 2, token, 0);
            }
        }
        KeyringCourt x = cached(0, 16);
        x.line(2);
        due.is("40: fetched 16 minutes ago, its line is down", GOOD, x.check(2, 0, 0));
        x.line(2);
        due.is("40: its line is up", NO_KEY, x.check(2, 0, 0));
        Courts.family(x, Courts.signIn(x, 0), 2, 2);
        x.emergency();
        x.pass(10);
        due.is("40: fetched 10 minutes ago for the one before", GOOD, x.check(2, 1, 0));
    }

    // ---- the last minute of the clock, and many at once

    private static void inTheMinute30000() {
        KeyringCourt x = openAt(29969);
        Courts.signIn(x, 0);
        Courts.family(x, 0, 0, 0);
        x.pass(26);
        x.turn();
        due.is("2: its session is ended in the minute 30000", 1, x.pass(5));
        due.is("37: in which the key 1 comes to sign", 1, x.signing());
        int[] entries = {0, 2000, 5001, 1000, 3000};
        due.is("49: all entries", entries.length, x.audits());
        int sum = 7;
        for (int i = 0; i < entries.length; i++) {
            due.is("50: the entry " + i, entries[i], x.audit(i));
            sum = (31 * sum + 100 * (entries[i] / 1000) + entries[i] % 1000 + (i < 2 ? 29969 : 30000)) % 65521;
        }
        due.is("51: with their minutes", sum, x.sum());
        KeyringCourt y = openAt(29975);
        y.turn();
        y.pass(24);
        due.yes("38: in the minute 29999", y.isPublished(0));
        y.pass(1);
        due.no("38: retired in the minute 30000", y.isPublished(0));
    }

    private static void manyInOneMinute() {
        KeyringCourt x = Courts.withSessions(60);
        due.is("2: none is ended", 0, x.pass(30));
        due.is("2: all are ended in one minute", 60, x.pass(1));
        for (int i = 0; i < 60; i++) {
            due.is("50: by rising numbers", 1000 + i, x.audit(60 + i));
        }
        KeyringCourt y = openAt(2);
        for (int person = 0; person < 6; person++) {
            due.is("42: each person has one", person, y.recover(person));
        }
        orderInOneMinute();
    }

    private static void orderInOneMinute() {
        KeyringCourt x = Courts.open();
        Courts.signIn(x, 0);
        Courts.passUsing(x, 450, 0);
        Courts.signIn(x, 1);
        x.pass(20);
        x.stepUp(0, PASSWORD, true, 0);
        x.pass(10);
        due.is("2: one began 481 minutes ago, one was used last 31 minutes ago", 2, x.pass(1));
        due.is("50: by rising numbers, whatever ends them", 1000, x.audit(2));
        due.is("50: then the other one", 1001, x.audit(3));
        KeyringCourt y = Courts.open();
        Courts.signIn(y, 0, STICK);
        Courts.signIn(y, 1);
        y.helper(0);
        y.act(0, 2);
        int family = Courts.family(y, 1, 0, 0);
        due.is("2: all three in one minute", 3, y.pass(31));
        int[] entries = {1000, 1002, 1001, 3000 + family};
        for (int i = 0; i < entries.length; i++) {
            due.is("50: what belongs to a session ends with it, ahead of the next one", entries[i], y.audit(4 + i));
        }
    }

    // ---- recoveries

    private static KeyringCourt vouched(int start, int minutes) {
        KeyringCourt x = openAt(start);
        x.recover(0);
        pass(x, 20);
        x.vouch(0, Courts.signIn(x, 1, STICK));
        x.vouch(0, Courts.signIn(x, 2, STICK));
        pass(x, minutes - 20);
        return x;
    }

    private static void recoveries60() {
        for (int start : STARTS) {
            sides.refused("45: it began 59 minutes ago", () -> vouched(start, 59), Calls.STATE, "finish", 0);
            sides.answers("45: it began 60 minutes ago", () -> vouched(start, 60), 0, "finish", 0);
            sides.answers("45: it began much longer ago", () -> vouched(start, 700), 0, "finish", 0);
        }
        KeyringCourt x = openAt(8);
        x.recover(0);
        x.pass(60);
        x.vouch(0, Courts.signIn(x, 1, STICK));
        x.vouch(0, Courts.signIn(x, 2, STICK));
        due.is("45: those who vouch may do so in the last minute", 0, x.finish(0));
        due.is("50: its entry", 6000, x.audit(2));
    }
}
