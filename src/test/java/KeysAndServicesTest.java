/** Promises 35 to 41: turn, emergency, signing, isPublished, line, check, lag. */
public final class KeysAndServicesTest {
    private static final Due due = new Due();
    private static final int NONE = KeyringCourt.NONE;
    private static final int GOOD = KeyringCourt.GOOD, WRONG_AUDIENCE = KeyringCourt.WRONG_AUDIENCE, TOO_OLD = KeyringCourt.TOO_OLD;
    private static final int NO_KEY = KeyringCourt.NO_KEY, ENDED = KeyringCourt.ENDED, NO_SCOPE = KeyringCourt.NO_SCOPE;

    public static void main(String[] args) {
        turning();
        retiring();
        turningAgain();
        emergencies();
        mostKeys();
        keyRanges();
        tokensHaveTheirKeys();
        lines();
        eachServiceIsTold();
        toldOfEachAudience();
        checkRanges();
        checkOrder();
        caches();
        cachesOnOldKeys();
        failedLinesFetchNothing();
        whichChecksFetch();
        lags();
        due.end("KeysAndServicesTest");
    }

    private static void turning() {
        KeyringCourt x = new KeyringCourt();
        due.is("37: key 0 at first", 0, x.signing());
        due.is("35: the next key", 1, x.turn());
        due.yes("38: it is published", x.isPublished(1));
        due.is("37: it waits", 0, x.signing());
        due.state("35: a key waits", x, () -> x.turn());
        x.pass(4);
        due.is("37: 4 minutes later", 0, x.signing());
        due.state("35: a key waits still", x, () -> x.turn());
        due.is("49: no entry", 0, x.audits());
        x.pass(1);
        due.is("37: 5 minutes later it signs", 1, x.signing());
        due.is("49: its entry", 5001, x.audit(0));
        due.is("51: with that minute", (31 * 7 + 500 + 1 + 5) % 65521, x.sum());
        due.yes("38: the one before is published", x.isPublished(0));
    }

    private static void retiring() {
        KeyringCourt x = new KeyringCourt();
        x.pass(7);
        x.turn();
        x.pass(5 + 19);
        due.yes("38: 19 minutes behind", x.isPublished(0));
        x.pass(1);
        due.no("38: retired 20 minutes behind", x.isPublished(0));
        due.yes("38: the one that signs is published", x.isPublished(1));
        due.is("49: to retire is no entry", 1, x.audits());
    }

    private static void turningAgain() {
        KeyringCourt x = new KeyringCourt();
        x.turn();
        x.pass(5);
        due.is("35: the next one", 2, x.turn());
        x.pass(5);
        due.is("37: it signs", 2, x.signing());
        x.pass(14);
        due.yes("38: key 0 in the minute 24", x.isPublished(0));
        x.pass(1);
        due.no("38: key 0 in the minute 25", x.isPublished(0));
        x.pass(4);
        due.yes("38: key 1 in the minute 29", x.isPublished(1));
        x.pass(1);
        due.no("38: key 1 in the minute 30", x.isPublished(1));
        x.pass(600);
        due.yes("38: key 2 goes on", x.isPublished(2));
        due.is("37: key 2 signs", 2, x.signing());
    }

    private static void emergencies() {
        KeyringCourt x = new KeyringCourt();
        x.pass(3);
        due.is("36: none waits: the next key", 1, x.emergency());
        due.is("37: it signs at once", 1, x.signing());
        due.no("38: the one before is withdrawn", x.isPublished(0));
        due.yes("38: it is published by that", x.isPublished(1));
        due.is("49: its entry", 5001, x.audit(0));
        due.is("51: its minute", (31 * 7 + 501 + 3) % 65521, x.sum());
        x.turn();
        x.pass(3);
        due.is("36: the one that waits", 2, x.emergency());
        due.index("38: no other key is published", x, () -> Due.one(x.isPublished(3)));
        due.no("38: key 1 is withdrawn", x.isPublished(1));
        due.is("35: none waits any more", 3, x.turn());
        x.pass(2);
        due.is("37: the old waiting is over", 2, x.signing());
        x.pass(3);
        due.is("37: the new one is not", 3, x.signing());
        due.is("49: one entry for each that came to sign", 3, x.audits());
        due.is("36: while an old one is not retired", 4, x.emergency());
        due.yes("38: that one stays published", x.isPublished(2));
        x.pass(19);
        due.yes("38: until it is retired", x.isPublished(2));
        x.pass(1);
        due.no("38: then it is", x.isPublished(2));
        due.yes("38: key 4 is published", x.isPublished(4));
    }

    private static void mostKeys() {
        KeyringCourt x = new KeyringCourt();
        for (int key = 1; key < 19; key++) {
            due.is("36: its number", key, x.emergency());
        }
        due.is("35: the last key", 19, x.turn());
        due.state("35: a key waits, and there are 20", x, () -> x.turn());
        due.is("36: the one that waits, though there are 20", 19, x.emergency());
        due.state("36: none waits, and there are 20", x, () -> x.emergency());
        due.state("35: there are 20", x, () -> x.turn());
        due.is("37: the last one signs", 19, x.signing());
        due.yes("38: and is published", x.isPublished(19));
        due.index("38: key 20", x, () -> Due.one(x.isPublished(20)));
    }

    private static void keyRanges() {
        KeyringCourt x = new KeyringCourt();
        due.index("38: key 1", x, () -> Due.one(x.isPublished(1)));
        due.index("38: key -1", x, () -> Due.one(x.isPublished(-1)));
        due.index("39: service 4", x, () -> x.line(4));
        due.index("39: service -1", x, () -> x.line(-1));
        due.index("41: no token", x, () -> x.lag(0));
        due.index("41: token -1", x, () -> x.lag(-1));
    }

    private static void tokensHaveTheirKeys() {
        KeyringCourt x = Courts.open();
        int session = Courts.signIn(x, 0);
        int family = Courts.family(x, session, 0, 0);
        x.emergency();
        x.line(0);
        x.line(1);
        due.is("40: a token of the key 0", GOOD, x.check(0, 0, 0));
        x.refresh(family, 0);
        due.is("40: a refreshed one, of the key that signs now", NO_KEY, x.check(0, 1, 0));
        x.exchange(0, 1, 1);
        due.is("40: an exchanged one too", NO_KEY, x.check(1, 2, 0));
        Courts.family(x, session, 0, 1);
        due.is("40: one of a new family too", NO_KEY, x.check(1, 3, 0));
    }

    private static void lines() {
        KeyringCourt x = Courts.open();
        int session = Courts.signIn(x, 0);
        int one = Courts.family(x, session, 0, 1);
        int two = Courts.family(x, session, 1, 1);
        int three = Courts.family(x, session, 2, 2);
        int four = Courts.family(x, session, 2, 1);
        x.redeem(four);
        due.is("40: told at once", ENDED, x.check(1, x.tokenOf(four), 0));
        due.is("39: it goes down", 0, x.line(1));
        x.redeem(one);
        x.redeem(three);
        due.is("40: it was not told", GOOD, x.check(1, x.tokenOf(one), 0));
        due.is("40: another service was told", ENDED, x.check(2, x.tokenOf(three), 0));
        x.redeem(two);
        due.is("39: it comes up, and is told of two", 2, x.line(1));
        due.is("40: told of one", ENDED, x.check(1, x.tokenOf(one), 0));
        due.is("40: told of two", ENDED, x.check(1, x.tokenOf(two), 0));
        due.is("39: down again", 0, x.line(1));
        due.is("39: up again, nothing new", 0, x.line(1));
        due.is("39: one that is no audience goes down", 0, x.line(3));
        due.is("39: one that is no audience comes up", 0, x.line(3));
    }

    private static void eachServiceIsTold() {
        for (int service = 0; service < 4; service++) {
            KeyringCourt x = Courts.open();
            int session = Courts.signIn(x, 0);
            Courts.family(x, session, 0, service);
            Courts.family(x, session, 0, service);
            x.redeem(0);
            due.is("40: told at once, as its line is up", ENDED, x.check(service, 0, 0));
            due.is("41: told", 0, x.lag(0));
            x.line(service);
            x.redeem(1);
            due.is("40: not told, as its line is down", GOOD, x.check(service, 1, 0));
            due.is("41: not told", 11, x.lag(1));
            due.is("39: told as its line comes up", 1, x.line(service));
            due.is("40: told", ENDED, x.check(service, 1, 0));
            due.is("41: told then", 0, x.lag(1));
        }
    }

    private static void toldOfEachAudience() {
        KeyringCourt x = Courts.open();
        int session = Courts.signIn(x, 0);
        Courts.family(x, session, 0, 1);
        x.exchange(0, 2, 15);
        x.exchange(0, 3, 15);
        x.line(2);
        x.signOut(session);
        due.is("40: the family's audience", ENDED, x.check(1, 0, 0));
        due.is("40: the audience of an exchanged one", ENDED, x.check(3, 2, 0));
        due.is("40: one whose line is down", GOOD, x.check(2, 1, 0));
        due.is("39: is told when it comes up", 1, x.line(2));
        due.is("40: then", ENDED, x.check(2, 1, 0));
        Courts.family(x, Courts.signIn(x, 0), 0, 1);
        x.line(1);
        x.redeem(1);
        x.pass(100);
        due.is("39: told of a family whose tokens are too old", 1, x.line(1));
        due.is("39: a client is not told", 0, x.line(0) + x.line(0));
    }

    private static void checkRanges() {
        KeyringCourt x = Courts.open();
        due.index("40: no token", x, () -> x.check(0, 0, 0));
        Courts.family(x, Courts.signIn(x, 0), 0, 0);
        due.index("40: service 4", x, () -> x.check(4, 0, 0));
        due.index("40: service -1", x, () -> x.check(-1, 0, 0));
        due.index("40: token 1", x, () -> x.check(0, 1, 0));
        due.index("40: the token comes first", x, () -> x.check(0, -1, 4));
        due.argument("40: scope 4", x, () -> x.check(0, 0, 4));
        due.argument("40: scope -1", x, () -> x.check(0, 0, -1));
        due.argument("40: the scope comes before the audience", x, () -> x.check(1, 0, 4));
        due.is("40: scope 3", GOOD, x.check(0, 0, 3));
    }

    private static void checkOrder() {
        KeyringCourt x = Courts.open();
        int session = Courts.signIn(x, 0);
        x.consent(NONE, 1, 15);
        x.redeem(x.authorize(session, 1, 2, 10));
        due.is("40: GOOD", GOOD, x.check(2, 0, 1));
        due.is("40: NO_SCOPE", NO_SCOPE, x.check(2, 0, 0));
        due.is("40: its client is not its audience", WRONG_AUDIENCE, x.check(1, 0, 1));
        x.pass(10);
        due.is("40: in its last minute", GOOD, x.check(2, 0, 3));
        x.redeem(0);
        due.is("40: ENDED ahead of NO_SCOPE", ENDED, x.check(2, 0, 0));
        x.emergency();
        due.is("40: the cache is young and has the key", ENDED, x.check(2, 0, 0));
        x.pass(1);
        due.is("40: TOO_OLD ahead of ENDED", TOO_OLD, x.check(2, 0, 0));
        due.is("40: WRONG_AUDIENCE ahead of TOO_OLD", WRONG_AUDIENCE, x.check(3, 0, 0));
        x.redeem(x.authorize(session, 1, 2, 1));
        x.emergency();
        x.redeem(1);
        due.is("40: NO_KEY ahead of ENDED and NO_SCOPE", NO_KEY, x.check(2, 1, 3));
    }

    private static void caches() {
        KeyringCourt x = Courts.open();
        int session = Courts.signIn(x, 0);
        x.pass(10);
        Courts.family(x, session, 0, 0);
        x.emergency();
        x.pass(5);
        due.is("40: fetched 15 minutes ago, it has the withdrawn key", GOOD, x.check(0, 0, 0));
        due.is("40: another service is no help", WRONG_AUDIENCE, x.check(1, 0, 0));
        x.pass(1);
        due.is("40: fetched 16 minutes ago, it fetches", NO_KEY, x.check(0, 0, 0));
        due.is("40: again without the key", NO_KEY, x.check(0, 0, 0));
        Courts.family(x, session, 0, 0);
        due.is("40: it has the key that signs", GOOD, x.check(0, 1, 0));
    }

    private static void cachesOnOldKeys() {
        KeyringCourt x = Courts.open();
        int session = Courts.signIn(x, 0);
        x.pass(10);
        int family = Courts.family(x, session, 0, 0);
        x.turn();
        x.pass(5);
        x.refresh(family, 0);
        due.is("40: it fetches the key that it has not, in the minute 15", GOOD, x.check(0, 1, 0));
        due.is("40: the one before is published, too", GOOD, x.check(0, 0, 0));
        x.emergency();
        x.pass(5);
        due.is("40: fetched in the minute 15, it keeps the withdrawn one", GOOD, x.check(0, 1, 0));
        x.refresh(family, 1);
        due.is("40: it fetches for the new one", GOOD, x.check(0, 2, 0));
        due.is("40: by that it has lost the withdrawn one", NO_KEY, x.check(0, 1, 0));
        due.is("40: the waiting key was cached, too", GOOD, waitingIsCached());
    }

    private static int waitingIsCached() {
        KeyringCourt x = Courts.open();
        int session = Courts.signIn(x, 0);
        Courts.family(x, session, 0, 0);
        x.emergency();
        x.turn();
        Courts.family(x, session, 0, 0);
        x.check(0, 1, 0);
        x.emergency();
        Courts.family(x, session, 0, 0);
        x.line(0);
        return x.check(0, 2, 0);
    }

    private static void failedLinesFetchNothing() {
        KeyringCourt x = Courts.open();
        int session = Courts.signIn(x, 0);
        x.pass(16);
        Courts.family(x, session, 0, 0);
        x.emergency();
        x.line(0);
        due.is("40: its line is down, its cache is old, but has the key", GOOD, x.check(0, 0, 0));
        Courts.family(x, session, 0, 0);
        due.is("40: it cannot fetch", NO_KEY, x.check(0, 1, 0));
        x.line(0);
        due.is("40: up, it fetches", GOOD, x.check(0, 1, 0));
        due.is("40: the withdrawn one is lost", NO_KEY, x.check(0, 0, 0));
    }

    /**
     * The service 2 fetched more than 15 minutes ago, and the key 0, of all tokens, is withdrawn then. The token 0 is too old,
     * 1 is good, 2 of another audience, 3 of an ended family.
     */
    private static KeyringCourt withOldCache() {
        KeyringCourt x = Courts.open();
        int session = Courts.signIn(x, 0);
        Courts.family(x, session, 2, 2);
        x.pass(16);
        for (int audience : new int[] {2, 1, 2}) {
            Courts.family(x, session, 2, audience);
        }
        x.redeem(3);
        x.emergency();
        return x;
    }

    /** What is told of the token 1 with the line down behind a check: GOOD if nothing was fetched by that. */
    private static int behindCheck(int token, int outcome) {
        KeyringCourt x = withOldCache();
        due.is("40: the check itself", outcome, x.check(2, token, 0));
        x.line(2);
        return x.check(2, 1, 0);
    }

    private static void whichChecksFetch() {
        due.is("40: WRONG_AUDIENCE fetches nothing", GOOD, behindCheck(2, WRONG_AUDIENCE));
        due.is("40: TOO_OLD fetches nothing", GOOD, behindCheck(0, TOO_OLD));
        due.is("40: behind these it fetches, though the family is ended", NO_KEY, behindCheck(3, NO_KEY));
        due.is("40: behind these it fetches", NO_KEY, behindCheck(1, NO_KEY));
        KeyringCourt x = withOldCache();
        x.line(2);
        due.is("40: with the line down it fetches nothing", GOOD, x.check(2, 1, 0));
        due.is("40: nor is what it was told forgotten", ENDED, x.check(2, 3, 0));
        x.line(2);
        Courts.family(x, Courts.signIn(x, 0), 2, 2);
        x.redeem(4);
        due.is("40: ENDED, and fetched by that", ENDED, x.check(2, 4, 0));
        due.is("40: the withdrawn one is lost by that", NO_KEY, x.check(2, 1, 0));
    }

    private static void lags() {
        KeyringCourt x = Courts.open();
        int session = Courts.signIn(x, 0);
        Courts.family(x, session, 0, 1);
        x.exchange(0, 2, 1);
        due.is("41: a good family", 0, x.lag(0));
        x.line(1);
        due.is("41: good still", 0, x.lag(0));
        x.redeem(0);
        due.is("41: this minute and ten more", 11, x.lag(0));
        due.is("41: the other audience was told", 0, x.lag(1));
        x.pass(1);
        due.is("41: one less", 10, x.lag(0));
        x.pass(9);
        due.is("41: its last minute", 1, x.lag(0));
        x.pass(1);
        due.is("41: it has come to its end", 0, x.lag(0));
        x.pass(5);
        due.is("41: nor later", 0, x.lag(0));
        KeyringCourt y = Courts.open();
        Courts.family(y, Courts.signIn(y, 0), 0, 1);
        y.line(1);
        y.redeem(0);
        due.is("41: not told", 11, y.lag(0));
        y.line(1);
        due.is("41: told when the line comes up", 0, y.lag(0));
        due.index("41: token 1", y, () -> y.lag(1));
    }
}
