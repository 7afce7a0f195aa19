/** Promises 25 to 34: consent, withdraw, need, authorize, redeem, refresh, isGood, tokenOf, exchange, token. */
public final class ConsentAndTokensTest {
    private static final Due due = new Due();
    private static final int NONE = KeyringCourt.NONE, LOW = KeyringCourt.LOW, UNASKED = KeyringCourt.UNASKED;
    private static final int PASSWORD = KeyringCourt.PASSWORD, CODE = KeyringCourt.CODE, STICK = KeyringCourt.STICK;

    public static void main(String[] args) {
        consenting();
        withdrawing();
        needing();
        authorizing();
        authorizeUsesTheSession();
        authorizeRefused();
        redeeming();
        codesOfAnAge();
        redeemNeedsALiveSession();
        redeemingWithoutTokens();
        refreshing();
        twoTabs();
        stolen();
        refreshUsesTheSession();
        refreshRefused();
        looksAtFamilies();
        exchanging();
        exchangeLow();
        exchangeRefused();
        exchangeNearTheEnd();
        mostTokens();
        due.end("ConsentAndTokensTest");
    }

    private static void consenting() {
        KeyringCourt x = new KeyringCourt();
        due.is("25: first", 5, x.consent(0, 1, 5));
        due.is("25: besides", 7, x.consent(0, 1, 2));
        due.is("25: none more", 7, x.consent(0, 1, 0));
        due.is("25: another client", 8, x.consent(0, 2, 8));
        due.is("25: another person", 1, x.consent(5, 1, 1));
        due.is("25: for all people alone", 8, x.consent(NONE, 1, 8));
        due.is("25: by that person alone", 7, x.consent(0, 1, 1));
        due.is("25: for all people besides", 9, x.consent(NONE, 1, 1));
        due.index("25: person 6", x, () -> x.consent(6, 0, 0));
        due.index("25: person -2", x, () -> x.consent(-2, 0, 0));
        due.index("25: client 4", x, () -> x.consent(0, 4, 0));
        due.index("25: client -1", x, () -> x.consent(NONE, -1, 0));
        due.index("25: the client comes first", x, () -> x.consent(0, 4, 16));
        due.argument("25: scopes 16", x, () -> x.consent(0, 0, 16));
        due.argument("25: scopes -1", x, () -> x.consent(NONE, 0, -1));
    }

    private static void withdrawing() {
        KeyringCourt x = Courts.open();
        int session = Courts.signIn(x, 0);
        int other = Courts.signIn(x, 1);
        int again = Courts.signIn(x, 0);
        int one = Courts.family(x, session, 1, 2);
        int ofOther = Courts.family(x, other, 1, 2);
        int ofOtherClient = Courts.family(x, session, 2, 1);
        int two = Courts.family(x, again, 1, 3);
        due.is("25: the person's consent", 3, x.consent(0, 1, 3));
        due.is("26: two families", 2, x.withdraw(0, 1));
        due.is("26: the first one's entry", 3000 + one, x.audit(x.audits() - 2));
        due.is("26: the second one's entry", 3000 + two, x.audit(x.audits() - 1));
        due.no("26: ended", x.isGood(one));
        due.no("26: of another session of the person, too", x.isGood(two));
        due.yes("26: not of another person", x.isGood(ofOther));
        due.yes("26: not of another client", x.isGood(ofOtherClient));
        due.is("26: they are ended once", 0, x.withdraw(0, 1));
        due.is("26: all scopes are withdrawn", 4, x.consent(0, 1, 4));
        due.is("26: without a consent of the person", 1, x.withdraw(0, 2));
        due.yes("26: the consent for all people stays", x.authorize(session, 1, 1, 15) >= 0);
        due.index("26: person 6", x, () -> x.withdraw(6, 0));
        due.index("26: person NONE", x, () -> x.withdraw(NONE, 0));
        due.index("26: client 4", x, () -> x.withdraw(0, 4));
        due.index("26: client -1", x, () -> x.withdraw(0, -1));
        int code = x.authorize(other, 1, 1, 15);
        x.withdraw(1, 1);
        due.yes("26: a code is no family, and may be redeemed", x.redeem(code) >= 0);
    }

    private static void needing() {
        KeyringCourt x = new KeyringCourt();
        due.is("27: 0 at first", 0, x.need(3, 6));
        due.is("27: the level before", 6, x.need(3, 2));
        due.is("27: of another audience", 0, x.need(0, 0));
        due.index("27: audience 4", x, () -> x.need(4, 0));
        due.index("27: audience -1", x, () -> x.need(-1, 0));
        due.index("27: the audience comes first", x, () -> x.need(4, 7));
        due.argument("27: level 7", x, () -> x.need(0, 7));
        due.argument("27: level -1", x, () -> x.need(0, -1));
        due.is("27: it is 2 still", 2, x.need(3, 0));
    }

    private static void authorizing() {
        KeyringCourt x = Courts.open();
        int session = Courts.signIn(x, 0, CODE);
        due.is("28: nothing is consented to", UNASKED, x.authorize(session, 1, 2, 1));
        x.consent(1, 1, 15);
        due.is("28: another person consented", UNASKED, x.authorize(session, 1, 2, 1));
        x.consent(0, 2, 15);
        due.is("28: for another client", UNASKED, x.authorize(session, 1, 2, 1));
        x.consent(0, 1, 3);
        x.consent(NONE, 1, 4);
        due.is("28: by the person", 0, x.authorize(session, 1, 2, 3));
        due.is("28: for all", 1, x.authorize(session, 1, 2, 4));
        due.is("28: some by the person, some for all", 2, x.authorize(session, 1, 2, 7));
        due.is("28: not all scopes", UNASKED, x.authorize(session, 1, 2, 15));
        x.need(2, 2);
        due.is("28: as much as it needs", 3, x.authorize(session, 1, 2, 7));
        x.need(2, 3);
        due.is("28: less than it needs", LOW, x.authorize(session, 1, 2, 7));
        due.is("28: not all scopes comes first", UNASKED, x.authorize(session, 1, 2, 8));
        due.is("28: what the client needs as an audience is nothing", 4, x.authorize(session, 1, 3, 7));
        x.withdraw(0, 1);
        due.is("28: withdrawn", UNASKED, x.authorize(session, 1, 3, 1));
        due.is("28: client and audience may be the same", 5, x.authorize(session, 1, 1, 4));
    }

    private static void authorizeUsesTheSession() {
        KeyringCourt x = Courts.open();
        int unasked = Courts.signIn(x, 0);
        int low = Courts.signIn(x, 1);
        int good = Courts.signIn(x, 2);
        int idle = Courts.signIn(x, 3);
        x.consent(NONE, 0, 15);
        x.need(3, 1);
        x.pass(30);
        due.is("28: UNASKED", UNASKED, x.authorize(unasked, 1, 0, 1));
        due.is("28: LOW", LOW, x.authorize(low, 0, 3, 1));
        due.is("28: a code", 0, x.authorize(good, 0, 0, 1));
        due.is("28: the session that was not used is ended", 1, x.pass(30));
        due.no("28: idle", x.isLive(idle));
        due.is("28: the others are used 31 minutes ago", 3, x.pass(1));
    }

    private static void authorizeRefused() {
        KeyringCourt x = Courts.open();
        int session = Courts.signIn(x, 0);
        x.consent(NONE, 0, 15);
        due.index("28: no session", x, () -> x.authorize(1, 0, 0, 1));
        due.index("28: session -1", x, () -> x.authorize(-1, 0, 0, 1));
        due.index("28: client 4", x, () -> x.authorize(session, 4, 0, 1));
        due.index("28: client -1", x, () -> x.authorize(session, -1, 0, 1));
        due.index("28: audience 4", x, () -> x.authorize(session, 0, 4, 1));
        due.index("28: the audience comes before scopes", x, () -> x.authorize(session, 0, -1, 0));
        due.argument("28: scopes 0", x, () -> x.authorize(session, 0, 0, 0));
        due.argument("28: scopes 16", x, () -> x.authorize(session, 0, 0, 16));
        for (int i = 0; i < 60; i++) {
            due.is("28: the number of the code", i, x.authorize(session, 0, 0, 1));
        }
        x.pass(10);
        due.state("28: there are 60 codes", x, () -> x.authorize(session, 0, 0, 1));
        due.state("28: and UNASKED is no answer then", x, () -> x.authorize(session, 1, 0, 1));
        due.argument("28: scopes come before that", x, () -> x.authorize(session, 0, 0, 16));
        due.is("28: refused, it is no use of the session", 1, x.pass(21));
        KeyringCourt y = Courts.open();
        int left = Courts.signIn(y, 0);
        y.signOut(left);
        due.state("28: the session is not live", y, () -> y.authorize(left, 0, 0, 1));
    }

    private static void redeeming() {
        KeyringCourt x = Courts.open();
        int session = Courts.signIn(x, 0);
        x.consent(NONE, 3, 15);
        int first = x.authorize(session, 3, 1, 6);
        int second = x.authorize(session, 3, 2, 1);
        x.pass(2);
        due.is("29: families are numbered as they are made", 0, x.redeem(second));
        due.is("29: its entry", 2000, x.audit(x.audits() - 1));
        due.is("29: the next family", 1, x.redeem(first));
        due.is("34: its token", 12310, x.token(1));
        due.is("32: the token that was made at once", 0, x.tokenOf(0));
        due.is("34: client, audience, end", 12320, x.token(0));
        due.yes("31: good", x.isGood(0));
        x.pass(100);
        KeyringCourt y = Courts.open();
        int code = y.authorize(Courts.signIn(y, 0), 0, 0, 1);
        due.is("28: nothing consented to", UNASKED, code);
        due.index("29: no code 0", y, () -> y.redeem(0));
        due.index("29: code -1", y, () -> y.redeem(-1));
        due.is("29: redeemed again", NONE, x.redeem(second));
        due.is("29: again it makes no token", 1, x.tokenOf(1));
    }

    private static void codesOfAnAge() {
        KeyringCourt x = Courts.open();
        int session = Courts.signIn(x, 0);
        x.consent(NONE, 0, 15);
        int young = x.authorize(session, 0, 0, 1);
        int old = x.authorize(session, 0, 1, 1);
        int again = x.authorize(session, 0, 2, 1);
        x.pass(5);
        due.is("29: 5 minutes behind its making", 0, x.redeem(young));
        due.is("29: another one", 1, x.redeem(again));
        x.pass(1);
        due.is("29: 6 minutes behind its making", NONE, x.redeem(old));
        due.is("29: it stays as it was", NONE, x.redeem(old));
        due.yes("29: no family is ended by that", x.isGood(0));
        int entries = x.audits();
        due.is("29: redeemed again, however late", NONE, x.redeem(young));
        due.no("29: its family is ended", x.isGood(0));
        due.is("29: its entry", 3000, x.audit(entries));
        due.is("29: and once more", NONE, x.redeem(young));
        due.is("29: it is ended once", entries + 1, x.audits());
        due.yes("29: another family is not ended", x.isGood(1));
        due.index("30: there are two families", x, () -> x.refresh(2, 0));
    }

    private static void redeemNeedsALiveSession() {
        KeyringCourt x = Courts.open();
        int session = Courts.signIn(x, 0);
        x.consent(NONE, 0, 15);
        int code = x.authorize(session, 0, 0, 1);
        x.signOut(session);
        due.is("29: its session is not live", NONE, x.redeem(code));
        due.index("31: there is no family", x, () -> Due.one(x.isGood(0)));
        int idle = Courts.signIn(x, 0);
        x.pass(28);
        int late = x.authorize(idle, 0, 0, 1);
        x.pass(5);
        due.is("29: to redeem is no use of the session", 0, x.redeem(late));
        due.is("29: it was used when the code was made", 1, x.pass(26));
    }

    private static void redeemingWithoutTokens() {
        KeyringCourt x = Courts.open();
        int session = Courts.signIn(x, 0);
        int family = Courts.family(x, session, 0, 0);
        for (int i = 0; i < 199; i++) {
            x.refresh(family, i);
        }
        int code = x.authorize(session, 0, 0, 1);
        due.state("29: it would make a family, and there are 200 tokens", x, () -> x.redeem(code));
        due.is("29: redeemed again makes none", NONE, x.redeem(0));
        due.no("29: so that ends it", x.isGood(family));
        x.pass(6);
        due.is("29: too old, it would make none", NONE, x.redeem(code));
    }

    private static void refreshing() {
        KeyringCourt x = Courts.open();
        int session = Courts.signIn(x, 0);
        int family = Courts.family(x, session, 1, 2);
        x.pass(3);
        due.is("30: with its number", 1, x.refresh(family, 0));
        due.is("32: a token is made", 1, x.tokenOf(family));
        due.is("34: in this minute", 13120, x.token(1));
        due.is("30: with its new number", 2, x.refresh(family, 1));
        due.is("32: another one", 2, x.tokenOf(family));
        due.is("30: it is no entry", 2, x.audits());
    }

    private static void twoTabs() {
        KeyringCourt x = Courts.open();
        int session = Courts.signIn(x, 0);
        int family = Courts.family(x, session, 1, 2);
        x.refresh(family, 0);
        due.is("30: in this minute", 1, x.refresh(family, 0));
        due.is("30: once more", 1, x.refresh(family, 0));
        x.pass(1);
        due.is("30: in the minute ahead of it", 1, x.refresh(family, 0));
        due.is("32: nothing happens", 1, x.tokenOf(family));
        due.yes("31: good", x.isGood(family));
        due.is("30: with its number", 2, x.refresh(family, 1));
        x.pass(1);
        due.is("30: it became so in the minute of the last one", 2, x.refresh(family, 1));
        x.pass(1);
        due.is("30: that is later", NONE, x.refresh(family, 1));
        due.no("31: stolen, it is ended", x.isGood(family));
        due.is("31: its entry", 3000 + family, x.audit(x.audits() - 1));
        due.is("30: not good any more", NONE, x.refresh(family, 2));
    }

    private static void stolen() {
        KeyringCourt x = Courts.open();
        int session = Courts.signIn(x, 0);
        int family = Courts.family(x, session, 1, 2);
        int other = Courts.family(x, session, 1, 2);
        x.refresh(family, 0);
        x.refresh(family, 1);
        due.yes("31: good", x.isGood(family));
        due.is("30: any lower number, even at once", NONE, x.refresh(family, 0));
        due.no("31: it is ended", x.isGood(family));
        due.yes("31: the other one is not", x.isGood(other));
        due.yes("18: the session is not", x.isLive(session));
        due.is("30: ended, its own number makes nothing", NONE, x.refresh(family, 2));
        due.is("32: its latest token", 3, x.tokenOf(family));
        due.is("32: the other one's", 1, x.tokenOf(other));
    }

    private static void refreshUsesTheSession() {
        KeyringCourt x = Courts.open();
        int session = Courts.signIn(x, 0);
        int family = Courts.family(x, session, 1, 2);
        x.pass(29);
        x.refresh(family, 0);
        x.pass(1);
        due.is("30: two tabs", 1, x.refresh(family, 0));
        due.is("30: it was used with the first", 0, x.pass(29));
        due.is("30: and not with the second", 1, x.pass(1));
        due.is("30: its session is not live", NONE, x.refresh(family, 1));
    }

    private static void refreshRefused() {
        KeyringCourt x = Courts.open();
        int session = Courts.signIn(x, 0);
        int family = Courts.family(x, session, 1, 2);
        due.index("30: no family", x, () -> x.refresh(1, 0));
        due.index("30: the family comes first", x, () -> x.refresh(-1, -1));
        due.argument("30: number 1 of 0", x, () -> x.refresh(family, 1));
        due.argument("30: number -1", x, () -> x.refresh(family, -1));
        x.refresh(family, 0);
        due.argument("30: number 2 of 1", x, () -> x.refresh(family, 2));
        x.signOut(session);
        due.argument("30: the number comes first, good or not", x, () -> x.refresh(family, 2));
        due.is("30: it is not good", NONE, x.refresh(family, 1));
    }

    private static void looksAtFamilies() {
        KeyringCourt x = Courts.open();
        due.index("31: no family", x, () -> Due.one(x.isGood(0)));
        due.index("31: -1", x, () -> Due.one(x.isGood(-1)));
        due.index("32: no family", x, () -> x.tokenOf(0));
        due.index("32: -1", x, () -> x.tokenOf(-1));
        due.index("34: no token", x, () -> x.token(0));
        due.index("34: -1", x, () -> x.token(-1));
        int session = Courts.signIn(x, 0);
        int family = Courts.family(x, session, 1, 2);
        x.exchange(0, 3, 1);
        due.is("32: exchanged ones included", 1, x.tokenOf(family));
        x.signOut(session);
        due.no("31: ended with its session", x.isGood(family));
        due.is("32: of an ended one", 1, x.tokenOf(family));
        due.index("31: 1", x, () -> Due.one(x.isGood(1)));
        due.index("32: 1", x, () -> x.tokenOf(1));
        due.index("34: 2", x, () -> x.token(2));
    }

    private static void exchanging() {
        KeyringCourt x = Courts.open();
        int session = Courts.signIn(x, 0);
        int family = Courts.family(x, session, 1, 2);
        x.pass(4);
        due.is("33: a new token", 1, x.exchange(0, 3, 5));
        due.is("34: its client is the old audience; the same end", 10231, x.token(1));
        due.is("33: for the same audience", 2, x.exchange(1, 3, 5));
        due.is("34: two have acted on it", 10332, x.token(2));
        due.is("33: some of its scopes", 3, x.exchange(2, 0, 4));
        due.is("34: three have acted on it", 10303, x.token(3));
        due.state("33: three have acted on it", x, () -> x.exchange(3, 0, 4));
        due.argument("33: scopes that it does not have come first", x, () -> x.exchange(3, 0, 1));
        due.is("33: the first one may be exchanged again", 4, x.exchange(0, 2, 15));
        due.is("34: one has acted on it", 10221, x.token(4));
        due.is("32: the latest one", 4, x.tokenOf(family));
        due.is("40: the new one has its own scopes: not 1", KeyringCourt.NO_SCOPE, x.check(3, 1, 1));
        due.is("40: but 2", KeyringCourt.GOOD, x.check(3, 1, 2));
        due.is("30: the family's number is as it was", 1, x.refresh(family, 0));
        due.is("34: a refreshed one is of the client, and none has acted on it", 14120, x.token(5));
        due.argument("33: scopes only narrow", x, () -> x.exchange(1, 0, 2));
        due.argument("33: nor some more", x, () -> x.exchange(1, 0, 7));
    }

    private static void exchangeLow() {
        KeyringCourt x = Courts.open();
        int session = Courts.signIn(x, 0, CODE);
        Courts.family(x, session, 1, 2);
        x.need(3, 3);
        due.is("33: LOW", LOW, x.exchange(0, 3, 1));
        due.index("34: it makes none", x, () -> x.token(1));
        x.need(2, 6);
        x.need(3, 2);
        due.is("33: what the old audience needs is nothing", 1, x.exchange(0, 3, 1));
        x.need(3, 3);
        x.enroll(0, PASSWORD);
        x.stepUp(session, PASSWORD, true, 0);
        due.is("33: the level of its session, as it is now", 2, x.exchange(0, 3, 1));
    }

    private static void exchangeRefused() {
        KeyringCourt x = Courts.open();
        int session = Courts.signIn(x, 0);
        x.consent(NONE, 0, 15);
        int family = x.redeem(x.authorize(session, 0, 0, 6));
        due.index("33: no token", x, () -> x.exchange(1, 0, 2));
        due.index("33: token -1", x, () -> x.exchange(-1, 0, 2));
        due.index("33: audience 4", x, () -> x.exchange(0, 4, 2));
        due.index("33: the audience comes first", x, () -> x.exchange(0, -1, 0));
        due.argument("33: scopes 0", x, () -> x.exchange(0, 0, 0));
        due.argument("33: scopes 16", x, () -> x.exchange(0, 0, 16));
        due.argument("33: scopes 22", x, () -> x.exchange(0, 0, 22));
        due.argument("33: scopes that the token does not have", x, () -> x.exchange(0, 0, 1));
        x.redeem(0);
        due.no("31: not good", x.isGood(family));
        due.state("33: its family is not good", x, () -> x.exchange(0, 0, 2));
        due.argument("33: scopes come before that", x, () -> x.exchange(0, 0, 8));
    }

    private static void exchangeNearTheEnd() {
        KeyringCourt x = Courts.open();
        Courts.family(x, Courts.signIn(x, 0), 1, 2);
        x.pass(10);
        due.is("33: in its last minute", 1, x.exchange(0, 2, 1));
        due.is("34: which is that of the new one", 10221, x.token(1));
        x.pass(1);
        due.state("33: it has come to its end", x, () -> x.exchange(0, 2, 1));
        due.state("33: so has the new one", x, () -> x.exchange(1, 2, 1));
    }

    private static void mostTokens() {
        KeyringCourt x = Courts.open();
        int session = Courts.signIn(x, 0, STICK);
        int family = Courts.family(x, session, 0, 0);
        for (int i = 0; i < 198; i++) {
            x.refresh(family, i);
        }
        due.is("33: the token 199", 199, x.exchange(198, 0, 1));
        due.state("33: there are 200 tokens", x, () -> x.exchange(198, 0, 1));
        x.need(1, 6);
        due.state("33: and LOW is no answer then", x, () -> x.exchange(198, 1, 1));
        due.state("30: it would make a token", x, () -> x.refresh(family, 198));
        due.argument("30: the number comes first", x, () -> x.refresh(family, 199));
        due.is("30: two tabs make none", 198, x.refresh(family, 197));
        due.is("32: the last token", 199, x.tokenOf(family));
        due.is("30: stolen makes none", NONE, x.refresh(family, 3));
        due.is("30: not good makes none", NONE, x.refresh(family, 198));
    }
}
