import java.util.ArrayList;

/** An identity platform; ../shared/DOC.md says in numbered promises what it does. */
public final class KeyringCourt {
    public static final int NONE = -1;
    public static final int LOW = -2, UNASKED = -3;
    public static final int PASSWORD = 0, CODE = 1, STICK = 2, ABSENT = 0, READY = 1, SUSPENDED = 2;
    public static final int ASK = 0, KNOWN = 1, RISKY = 2, HAS = 3, AT_LEAST = 4, GRANT = 5, DENY = 6;
    public static final int NEW_DEVICE = 0, NEW_PLACE = 1, WRONGS = 2;
    public static final int ASKING = 0, GRANTED = 1, DENIED = 2;
    public static final int GOOD = 0, WRONG_AUDIENCE = 1, TOO_OLD = 2, NO_KEY = 3, ENDED = 4, NO_SCOPE = 5;

    private static final int PEOPLE = 6, DEVICES = 6, PLACES = 6, SERVICES = 4;
    private static final int FACTORS = 3, RULES = 3, SCOPES = 4, ALL_SCOPES = 15;
    private static final int MOST_LEVEL = 6, MOST_RISK = 20, MOST_POINTS = 5, MOST_TIMES = 3, MOST_COUNTER = 9999;
    private static final int MOST_VERSIONS = 8, MOST_ATTEMPTS = 60, MOST_ANSWERS = 12, MOST_SESSIONS = 60;
    private static final int MOST_CODES = 60, MOST_TOKENS = 200, MOST_ACTED = 3, MOST_RECOVERIES = 20;

    private static final int LAST_MINUTE = 30000, LONGEST_PASS = 600;
    private static final int IDLE_MINUTES = 30, SESSION_MINUTES = 480, SHOWN_MINUTES = 120, WRONG_MINUTES = 60;
    private static final int CODE_MINUTES = 5, TOKEN_MINUTES = 10, TWO_TABS_MINUTES = 1;
    private static final int CACHE_MINUTES = 15, RECOVERY_MINUTES = 60;
    private static final int HELPING_LEVEL = 3, VOUCHING_LEVEL = 3, LEAST_VOUCHERS = 2;

    private static final int SESSION_BEGUN = 0, SESSION_ENDED = 1, FAMILY_MADE = 2, FAMILY_ENDED = 3;
    private static final int FACTOR_SUSPENDED = 4, KEY_SIGNS = 5, RECOVERY_FINISHED = 6;

    private int now;
    private final Audit audit = new Audit();
    private final Person[] people = new Person[PEOPLE];
    private final int[] heldPoints = {2, 1, 1};
    private final int[] trialPoints = {NONE, NONE, NONE};
    private Flow draft = new Flow();
    private final ArrayList<Flow> versions = new ArrayList<Flow>();
    private final ArrayList<Attempt> attempts = new ArrayList<Attempt>();
    private final ArrayList<Session> sessions = new ArrayList<Session>();
    private int liveSessions;
    private final int[] consentsOfAll = new int[SERVICES];
    private final Service[] services = new Service[SERVICES];
    private final ArrayList<Grant> codes = new ArrayList<Grant>();
    private final ArrayList<Grant> families = new ArrayList<Grant>();
    private final ArrayList<Token> tokens = new ArrayList<Token>();
    private final Keyring keyring = new Keyring();
    private final ArrayList<Recovery> recoveries = new ArrayList<Recovery>();
    private final int[] links = {NONE, NONE, NONE, NONE, NONE, NONE};

    public KeyringCourt() {
        for (int i = 0; i < PEOPLE; i++) {
            people[i] = new Person(i);
        }
        for (int i = 0; i < SERVICES; i++) {
            services[i] = new Service();
        }
    }

    // ---- time, factors

    public int pass(int minutes) throws IllegalArgumentException, IllegalStateException {
        requireArgument(isWithin(minutes, 1, LONGEST_PASS));
        requireState(now + minutes <= LAST_MINUTE);
        int before = liveSessions;
        for (int i = 0; i < minutes; i++) {
            now++;
            turnKeys();
            endOldSessions();
        }
        return before - liveSessions;
    }

    public int enroll(int person, int factor) throws IndexOutOfBoundsException, IllegalArgumentException {
        Person whose = findPerson(person);
        requireArgument(isFactor(factor));
        int before = whose.stateOf(factor);
        whose.makeReady(factor);
        return before;
    }

    public int factor(int person, int factor) throws IndexOutOfBoundsException, IllegalArgumentException {
        Person whose = findPerson(person);
        requireArgument(isFactor(factor));
        return whose.stateOf(factor);
    }

    // ---- flows

    public int step(int kind, int a, int b, int yes, int no) throws IllegalArgumentException, IllegalStateException {
        requireArgument(isStep(kind, a, b, yes, no));
        requireState(draft.count < Flow.MOST_STEPS);
        return draft.add(kind, a, b, yes, no);
    }

    public int clear() {
        int steps = draft.count;
        draft.count = 0;
        return steps;
    }

    public int publish() throws IllegalStateException {
        requireState(versions.size() < MOST_VERSIONS);
        requireState(draft.count > 0 && draft.hasAllNextSteps() && !draft.hasLoopOfTests());
        versions.add(draft);
        draft = new Flow();
        return versions.size() - 1;
    }

    public int weakest(int version) throws IndexOutOfBoundsException {
        requireIndex(version, versions.size());
        return versions.get(version).weakestLevel();
    }

    // ---- risk and attempts

    public int points(int rule, int points, boolean isTrial) throws IllegalArgumentException {
        requireArgument(isWithin(rule, 0, RULES - 1));
        requireArgument(isWithin(points, isTrial ? NONE : 0, MOST_POINTS));
        int[] row = isTrial ? trialPoints : heldPoints;
        int before = row[rule];
        row[rule] = points;
        return before;
    }

    public int begin(int person, int device, int place) throws IndexOutOfBoundsException, IllegalStateException {
        Person who = findPerson(person);
        requireIndex(device, DEVICES);
        requireIndex(place, PLACES);
        requireState(!versions.isEmpty() && !who.isAway && attempts.size() < MOST_ATTEMPTS);
        Attempt attempt = new Attempt(who, device, place, versions.get(versions.size() - 1));
        attempts.add(attempt);
        goOn(attempt, 0);
        return attempts.size() - 1;
    }

    public int answer(int attempt, boolean isRight, int counter) throws IndexOutOfBoundsException, IllegalArgumentException, IllegalStateException {
        Attempt answered = findAttempt(attempt);
        requireArgument(isWithin(counter, 0, MOST_COUNTER));
        requireState(answered.state == ASKING);
        takeAnswer(answered, isRight, counter);
        return answered.state;
    }

    public int state(int attempt) throws IndexOutOfBoundsException {
        return findAttempt(attempt).state;
    }

    public int asked(int attempt) throws IndexOutOfBoundsException {
        Attempt found = findAttempt(attempt);
        return found.state == ASKING ? found.flow.firstOf(found.step) : NONE;
    }

    public int sessionOf(int attempt) throws IndexOutOfBoundsException {
        return findAttempt(attempt).session;
    }

    public int risk(int attempt) throws IndexOutOfBoundsException {
        return riskOf(findAttempt(attempt), false);
    }

    public int trialRisk(int attempt) throws IndexOutOfBoundsException {
        return riskOf(findAttempt(attempt), true);
    }

    // ---- sessions

    public int sessions() {
        return sessions.size();
    }

    public boolean isLive(int session) throws IndexOutOfBoundsException {
        return findSession(session).isLive;
    }

    public boolean isLiveByAudit(int session) throws IndexOutOfBoundsException {
        requireIndex(session, sessions.size());
        return audit.has(SESSION_BEGUN, session) && !audit.has(SESSION_ENDED, session);
    }

    public int level(int session) throws IndexOutOfBoundsException {
        return findSession(session).levelAt(now);
    }

    public int stepUp(int session, int factor, boolean isRight, int counter) throws IndexOutOfBoundsException, IllegalArgumentException, IllegalStateException {
        Session stepped = findSession(session);
        requireArgument(isFactor(factor) && isWithin(counter, 0, MOST_COUNTER));
        requireState(stepped.isLive && stepped.owner == null);
        stepped.used = now;
        if (isAnsweredRight(stepped.person, factor, isRight, counter)) {
            stepped.shown.show(factor, now);
        }
        return stepped.levelAt(now);
    }

    public int signOut(int session) throws IndexOutOfBoundsException, IllegalStateException {
        Session left = findSession(session);
        requireState(left.isLive);
        int before = liveSessions;
        endSession(left);
        return before - liveSessions;
    }

    public boolean helper(int person) throws IndexOutOfBoundsException {
        Person found = findPerson(person);
        found.isHelper = !found.isHelper;
        return found.isHelper;
    }

    public int act(int session, int person) throws IndexOutOfBoundsException, IllegalStateException {
        Session owner = findSession(session);
        Person other = findPerson(person);
        requireState(owner.isLive && owner.owner == null && owner.levelAt(now) >= HELPING_LEVEL);
        requireState(owner.person.isHelper && owner.person != other && !other.isAway);
        requireState(sessions.size() < MOST_SESSIONS);
        return beginSession(other, owner, owner.shown);
    }

    // ---- consent, codes, families, tokens

    public int consent(int person, int client, int scopes) throws IndexOutOfBoundsException, IllegalArgumentException {
        int[] row = person == NONE ? consentsOfAll : findPerson(person).consents;
        requireIndex(client, row.length);
        requireArgument(isWithin(scopes, 0, ALL_SCOPES));
        row[client] |= scopes;
        return row[client];
    }

    public int withdraw(int person, int client) throws IndexOutOfBoundsException {
        Person whose = findPerson(person);
        requireIndex(client, whose.consents.length);
        whose.consents[client] = 0;
        int ended = 0;
        for (int i = 0; i < families.size(); i++) {
            Grant family = families.get(i);
            if (family.isGood && family.session.person == whose && family.client == client) {
                endFamily(family);
                ended++;
            }
        }
        return ended;
    }

    public int need(int audience, int level) throws IndexOutOfBoundsException, IllegalArgumentException {
        Service service = findService(audience);
        requireArgument(isWithin(level, 0, MOST_LEVEL));
        int before = service.neededLevel;
        service.neededLevel = level;
        return before;
    }

    public int authorize(int session, int client, int audience, int scopes) throws IndexOutOfBoundsException, IllegalArgumentException, IllegalStateException {
        Session by = findSession(session);
        requireIndex(client, SERVICES);
        Service service = findService(audience);
        requireArgument(isWithin(scopes, 1, ALL_SCOPES));
        requireState(by.isLive && codes.size() < MOST_CODES);
        by.used = now;
        if ((scopes & ~consentedTo(by.person, client)) != 0) {
            return UNASKED;
        }
        if (by.levelAt(now) < service.neededLevel) {
            return LOW;
        }
        codes.add(new Grant(by, client, audience, scopes, now));
        return codes.size() - 1;
    }

    public int redeem(int code) throws IndexOutOfBoundsException, IllegalStateException {
        requireIndex(code, codes.size());
        Grant grant = codes.get(code);
        if (grant.family != NONE) {
            endFamily(grant);
            return NONE;
        }
        if (!grant.session.isLive || now - grant.made > CODE_MINUTES) {
            return NONE;
        }
        requireState(tokens.size() < MOST_TOKENS);
        makeFamily(grant);
        return grant.family;
    }

    public int refresh(int family, int number) throws IndexOutOfBoundsException, IllegalArgumentException, IllegalStateException {
        Grant refreshed = findFamily(family);
        requireArgument(isWithin(number, 0, refreshed.number));
        if (!refreshed.isGood || !refreshed.session.isLive) {
            return NONE;
        }
        if (number == refreshed.number) {
            requireState(tokens.size() < MOST_TOKENS);
            rotate(refreshed);
            return refreshed.number;
        }
        if (number == refreshed.number - 1 && now - refreshed.rotated <= TWO_TABS_MINUTES) {
            return refreshed.number;
        }
        endFamily(refreshed);
        return NONE;
    }

    public boolean isGood(int family) throws IndexOutOfBoundsException {
        return findFamily(family).isGood;
    }

    public int tokenOf(int family) throws IndexOutOfBoundsException {
        return findFamily(family).latestToken;
    }

    public int exchange(int token, int audience, int scopes) throws IndexOutOfBoundsException, IllegalArgumentException, IllegalStateException {
        Token old = findToken(token);
        Service service = findService(audience);
        requireArgument(isWithin(scopes, 1, ALL_SCOPES) && (scopes & ~old.scopes) == 0);
        requireState(now <= old.lastMinute && old.family.isGood && old.acted < MOST_ACTED);
        requireState(tokens.size() < MOST_TOKENS);
        if (old.family.session.levelAt(now) < service.neededLevel) {
            return LOW;
        }
        addToken(new Token(old.family, old.audience, audience, scopes, old.acted + 1, keyring.signer, old.lastMinute));
        return tokens.size() - 1;
    }

    public int token(int token) throws IndexOutOfBoundsException {
        Token found = findToken(token);
        return 1000 * found.lastMinute + 100 * found.client + 10 * found.audience + found.acted;
    }

    // ---- keys, services, checks

    public int turn() throws IllegalStateException {
        requireState(keyring.waiting == NONE && keyring.count < Keyring.MOST_KEYS);
        return keyring.publishWaiting(now);
    }

    public int emergency() throws IllegalStateException {
        requireState(keyring.waiting != NONE || keyring.count < Keyring.MOST_KEYS);
        keyring.replaceSigner();
        audit.write(KEY_SIGNS, keyring.signer, now);
        return keyring.signer;
    }

    public int signing() {
        return keyring.signer;
    }

    public boolean isPublished(int key) throws IndexOutOfBoundsException {
        requireIndex(key, keyring.count);
        return isIn(key, keyring.published);
    }

    public int line(int service) throws IndexOutOfBoundsException {
        Service found = findService(service);
        found.isUp = !found.isUp;
        return found.isUp ? tellOfEnded(service) : 0;
    }

    public int check(int service, int token, int scope) throws IndexOutOfBoundsException, IllegalArgumentException {
        Service checking = findService(service);
        Token checked = findToken(token);
        requireArgument(isWithin(scope, 0, SCOPES - 1));
        if (checked.audience != service) {
            return WRONG_AUDIENCE;
        }
        if (now > checked.lastMinute) {
            return TOO_OLD;
        }
        fetchKeys(checking, checked.key);
        if (!isIn(checked.key, checking.cachedKeys)) {
            return NO_KEY;
        }
        if (isIn(service, checked.family.toldServices)) {
            return ENDED;
        }
        return isIn(scope, checked.scopes) ? GOOD : NO_SCOPE;
    }

    public int lag(int token) throws IndexOutOfBoundsException {
        Token found = findToken(token);
        if (found.family.isGood || isIn(found.audience, found.family.toldServices)) {
            return 0;
        }
        return Math.max(0, found.lastMinute - now + 1);
    }

    // ---- recovery, foreign accounts, leaving

    public int recover(int person) throws IndexOutOfBoundsException, IllegalStateException {
        Person whose = findPerson(person);
        requireState(!whose.isAway && !hasOpenRecovery(whose) && recoveries.size() < MOST_RECOVERIES);
        recoveries.add(new Recovery(whose, now));
        return recoveries.size() - 1;
    }

    public int vouch(int recovery, int session) throws IndexOutOfBoundsException, IllegalStateException {
        Recovery vouched = findRecovery(recovery);
        Session by = findSession(session);
        requireState(vouched.isOpen && by.isLive && by.owner == null && by.person != vouched.person);
        requireState(by.levelAt(now) >= VOUCHING_LEVEL && !isIn(by.person.number, vouched.vouchers));
        vouched.vouchers |= 1 << by.person.number;
        vouched.levels += by.levelAt(now);
        return vouched.levels;
    }

    public int stop(int recovery, int session) throws IndexOutOfBoundsException, IllegalStateException {
        Recovery stopped = findRecovery(recovery);
        Session by = findSession(session);
        requireState(stopped.isOpen && by.isLive && by.owner == null && by.person == stopped.person);
        stopped.isOpen = false;
        return stopped.countVouchers();
    }

    public int finish(int recovery) throws IndexOutOfBoundsException, IllegalStateException {
        Recovery finished = findRecovery(recovery);
        requireState(finished.isOpen && now - finished.began >= RECOVERY_MINUTES);
        requireState(finished.countVouchers() >= LEAST_VOUCHERS);
        requireState(finished.levels >= finished.person.levelOfEnrolled());
        finished.isOpen = false;
        // What follows from the finish comes behind it in the audit, as with a session that is ended.
        audit.write(RECOVERY_FINISHED, recovery, now);
        int ended = endSessionsOf(finished.person);
        finished.person.loseFactors();
        finished.person.makeReady(PASSWORD);
        return ended;
    }

    public int link(int account, int person) throws IndexOutOfBoundsException, IllegalStateException {
        requireIndex(account, links.length);
        if (person != NONE) {
            requireIndex(person, PEOPLE);
        }
        int before = links[account];
        requireState(person == NONE || before == NONE || before == person);
        links[account] = person;
        return before;
    }

    public int foreign(int account) throws IndexOutOfBoundsException, IllegalStateException {
        requireIndex(account, links.length);
        int person = links[account];
        requireState(person != NONE && sessions.size() < MOST_SESSIONS);
        Person who = findPerson(person);
        requireState(!who.isAway);
        return beginSession(who, null, new Shown());
    }

    public int leave(int person) throws IndexOutOfBoundsException {
        Person who = findPerson(person);
        who.isAway = !who.isAway;
        if (!who.isAway) {
            return NONE;
        }
        denyAttemptsOf(who);
        stopRecoveriesOf(who);
        return endSessionsOf(who);
    }

    // ---- audit

    public int audits() {
        return audit.count;
    }

    public int audit(int entry) throws IndexOutOfBoundsException {
        requireIndex(entry, audit.count);
        return audit.entryAt(entry);
    }

    public int sum() {
        return audit.total;
    }

    public int sumAnew(int entries) throws IndexOutOfBoundsException {
        requireIndex(entries, audit.count + 1);
        return audit.totalOfFirst(entries);
    }

    // ---- what the calls require

    private static boolean isWithin(int value, int least, int most) {
        return value >= least && value <= most;
    }

    private static boolean isFactor(int factor) {
        return isWithin(factor, 0, FACTORS - 1);
    }

    private static boolean isIn(int member, int set) {
        return (set >> member & 1) == 1;
    }

    private static void requireIndex(int index, int size) {
        if (index < 0 || index >= size) {
            throw new IndexOutOfBoundsException();
        }
    }

    private static void requireArgument(boolean isRight) {
        if (!isRight) {
            throw new IllegalArgumentException();
        }
    }

    private static void requireState(boolean isRight) {
        if (!isRight) {
            throw new IllegalStateException();
        }
    }

    private static boolean isStep(int kind, int a, int b, int yes, int no) {
        if (!isWithin(kind, ASK, DENY) || !isWithin(a, 0, mostFirst(kind))) {
            return false;
        }
        if (!isWithin(b, kind == ASK ? 1 : 0, kind == ASK ? MOST_TIMES : 0)) {
            return false;
        }
        return kind >= GRANT || isNext(yes) && isNext(no);
    }

    private static boolean isNext(int step) {
        return isWithin(step, NONE, Flow.MOST_STEPS - 1);
    }

    private static int mostFirst(int kind) {
        switch (kind) {
            case ASK:
            case HAS:
                return FACTORS - 1;
            case RISKY:
                return MOST_RISK;
            case AT_LEAST:
                return MOST_LEVEL;
            default:
                return 0;
        }
    }

    private Person findPerson(int person) {
        Person found = person >= 0 && person < people.length ? people[person] : null;
        if (found == null) {
            throw new IndexOutOfBoundsException();
        }
        return found;
    }

    private Service findService(int service) {
        Service found = service >= 0 && service < services.length ? services[service] : null;
        if (found == null) {
            throw new IndexOutOfBoundsException();
        }
        return found;
    }

    private Attempt findAttempt(int attempt) {
        requireIndex(attempt, attempts.size());
        return attempts.get(attempt);
    }

    private Session findSession(int session) {
        requireIndex(session, sessions.size());
        return sessions.get(session);
    }

    private Grant findFamily(int family) {
        requireIndex(family, families.size());
        return families.get(family);
    }

    private Token findToken(int token) {
        requireIndex(token, tokens.size());
        return tokens.get(token);
    }

    private Recovery findRecovery(int recovery) {
        requireIndex(recovery, recoveries.size());
        return recoveries.get(recovery);
    }

    // ---- minutes

    private void turnKeys() {
        if (keyring.isDueToSign(now)) {
            keyring.putWaitingToSign(now);
            audit.write(KEY_SIGNS, keyring.signer, now);
        }
        keyring.retire(now);
    }

    private void endOldSessions() {
        if (liveSessions == 0) {
            return;
        }
        for (int i = 0; i < sessions.size(); i++) {
            Session session = sessions.get(i);
            if (session.isLive && session.isOldAt(now)) {
                endSession(session);
            }
        }
    }

    // ---- answers, risk and the way through a flow

    private boolean isAnsweredRight(Person person, int factor, boolean isRight, int counter) {
        boolean wasReady = person.stateOf(factor) == READY;
        boolean isTaken = person.takes(factor, isRight, counter);
        if (!isTaken) {
            person.noteWrong(now);
        }
        if (wasReady && person.stateOf(factor) == SUSPENDED) {
            audit.write(FACTOR_SUSPENDED, FACTORS * person.number + factor, now);
        }
        return isTaken;
    }

    private void takeAnswer(Attempt attempt, boolean isRight, int counter) {
        Flow flow = attempt.flow;
        int factor = flow.firstOf(attempt.step);
        attempt.answers++;
        if (isAnsweredRight(attempt.person, factor, isRight, counter)) {
            attempt.shown.show(factor, now);
            goOn(attempt, flow.nextOf(attempt.step, true));
        } else {
            attempt.wrongs++;
            if (attempt.wrongs >= flow.secondOf(attempt.step)) {
                goOn(attempt, flow.nextOf(attempt.step, false));
            }
        }
        if (attempt.state == ASKING && attempt.answers >= MOST_ANSWERS) {
            attempt.state = DENIED;
        }
    }

    private void goOn(Attempt attempt, int from) {
        int step = from;
        // A published flow has no loop of tests, so there are never more tests in a row than steps.
        for (int i = 0; i < Flow.MOST_STEPS && attempt.flow.isTest(step); i++) {
            step = attempt.flow.nextOf(step, holds(attempt, step));
        }
        int kind = attempt.flow.kindOf(step);
        if (kind == ASK) {
            attempt.waitAt(step);
        } else if (kind == GRANT && sessions.size() < MOST_SESSIONS) {
            grant(attempt);
        } else {
            attempt.state = DENIED;
        }
    }

    private void grant(Attempt attempt) {
        attempt.state = GRANTED;
        attempt.session = beginSession(attempt.person, null, attempt.shown);
        attempt.person.learn(attempt.device, attempt.place);
    }

    private boolean holds(Attempt attempt, int step) {
        int first = attempt.flow.firstOf(step);
        switch (attempt.flow.kindOf(step)) {
            case KNOWN:
                return isIn(attempt.device, attempt.person.knownDevices);
            case RISKY:
                return riskOf(attempt, false) >= first;
            case HAS:
                return attempt.person.stateOf(first) == READY;
            case AT_LEAST:
                return attempt.shown.levelSince(0) >= first;
            default:
                return false;
        }
    }

    private int riskOf(Attempt attempt, boolean isTrial) {
        Person person = attempt.person;
        int risk = pointsOf(WRONGS, isTrial) * person.wrongsSince(now - WRONG_MINUTES + 1);
        if (!isIn(attempt.device, person.knownDevices)) {
            risk += pointsOf(NEW_DEVICE, isTrial);
        }
        if (!isIn(attempt.place, person.knownPlaces)) {
            risk += pointsOf(NEW_PLACE, isTrial);
        }
        return risk;
    }

    private int pointsOf(int rule, boolean isTrial) {
        if (!isWithin(rule, 0, RULES - 1)) {
            return 0;
        }
        return isTrial && trialPoints[rule] != NONE ? trialPoints[rule] : heldPoints[rule];
    }

    // ---- beginnings and ends of sessions and families

    private int beginSession(Person person, Session owner, Shown shown) {
        int number = sessions.size();
        sessions.add(new Session(number, person, owner, new Shown(shown), now));
        liveSessions++;
        audit.write(SESSION_BEGUN, number, now);
        return number;
    }

    private void endSession(Session session) {
        markEnded(session);
        for (int i = 0; i < sessions.size(); i++) {
            Session other = sessions.get(i);
            if (other.owner == session && other.isLive) {
                // Nothing belongs to this one, as nobody can act by it.
                markEnded(other);
                endFamiliesOf(other);
            }
        }
        endFamiliesOf(session);
    }

    private void markEnded(Session session) {
        session.isLive = false;
        liveSessions--;
        audit.write(SESSION_ENDED, session.number, now);
    }

    private int endSessionsOf(Person person) {
        int before = liveSessions;
        for (int i = 0; i < sessions.size(); i++) {
            Session session = sessions.get(i);
            if (session.person == person && session.isLive) {
                endSession(session);
            }
        }
        return before - liveSessions;
    }

    private void endFamiliesOf(Session session) {
        for (int i = 0; i < families.size(); i++) {
            Grant family = families.get(i);
            if (family.session == session) {
                endFamily(family);
            }
        }
    }

    private void endFamily(Grant family) {
        if (!family.isGood) {
            return;
        }
        family.isGood = false;
        audit.write(FAMILY_ENDED, family.family, now);
        for (int i = 0; i < SERVICES; i++) {
            if (findService(i).isUp) {
                family.tell(i);
            }
        }
    }

    private int tellOfEnded(int service) {
        int told = 0;
        for (int i = 0; i < families.size(); i++) {
            Grant family = families.get(i);
            if (!family.isGood && family.tell(service)) {
                told++;
            }
        }
        return told;
    }

    // ---- consent, tokens, keys of services

    private int consentedTo(Person person, int client) {
        if (client < 0 || client >= consentsOfAll.length || client >= person.consents.length) {
            return 0;
        }
        return consentsOfAll[client] | person.consents[client];
    }

    private void makeFamily(Grant grant) {
        grant.family = families.size();
        grant.isGood = true;
        families.add(grant);
        audit.write(FAMILY_MADE, grant.family, now);
        addFirstHandToken(grant);
    }

    private void rotate(Grant family) {
        family.number++;
        family.rotated = now;
        family.session.used = now;
        addFirstHandToken(family);
    }

    private void addFirstHandToken(Grant family) {
        addToken(new Token(family, family.client, family.audience, family.scopes, 0, keyring.signer, now + TOKEN_MINUTES));
    }

    private void addToken(Token token) {
        token.family.latestToken = tokens.size();
        token.family.audiences |= 1 << token.audience;
        tokens.add(token);
    }

    private void fetchKeys(Service service, int key) {
        boolean isWanting = now - service.fetched > CACHE_MINUTES || !isIn(key, service.cachedKeys);
        if (service.isUp && isWanting) {
            service.cachedKeys = keyring.published;
            service.fetched = now;
        }
    }

    // ---- recoveries and leaving

    private boolean hasOpenRecovery(Person person) {
        for (int i = 0; i < recoveries.size(); i++) {
            Recovery recovery = recoveries.get(i);
            if (recovery.isOpen && recovery.person == person) {
                return true;
            }
        }
        return false;
    }

    private void stopRecoveriesOf(Person person) {
        for (int i = 0; i < recoveries.size(); i++) {
            Recovery recovery = recoveries.get(i);
            if (recovery.person == person) {
                recovery.isOpen = false;
            }
        }
    }

    private void denyAttemptsOf(Person person) {
        for (int i = 0; i < attempts.size(); i++) {
            Attempt attempt = attempts.get(i);
            if (attempt.person == person && attempt.state == ASKING) {
                attempt.state = DENIED;
            }
        }
    }

    /** What happened, in order, with a running sum that can be found anew. */
    private static final class Audit {
        // 512 calls cannot write as many; what later calls answer is free.
        private static final int MOST_ENTRIES = 1024;
        private static final int FIRST_TOTAL = 7;

        private final int[] entries = new int[MOST_ENTRIES];
        private final int[] minutes = new int[MOST_ENTRIES];
        private int count;
        private int total = FIRST_TOTAL;

        void write(int kind, int number, int minute) {
            if (count < 0 || count >= MOST_ENTRIES) {
                return;
            }
            entries[count] = 1000 * kind + number;
            minutes[count] = minute;
            total = totalWith(total, count);
            count++;
        }

        int entryAt(int index) {
            return index >= 0 && index < MOST_ENTRIES ? entries[index] : 0;
        }

        boolean has(int kind, int number) {
            for (int i = 0; i < count; i++) {
                if (entryAt(i) == 1000 * kind + number) {
                    return true;
                }
            }
            return false;
        }

        int totalOfFirst(int howMany) {
            int sum = FIRST_TOTAL;
            for (int i = 0; i < howMany; i++) {
                sum = totalWith(sum, i);
            }
            return sum;
        }

        private int totalWith(int before, int index) {
            if (index < 0 || index >= MOST_ENTRIES) {
                return before;
            }
            int kind = entries[index] / 1000;
            int number = entries[index] % 1000;
            return (31 * before + 100 * kind + number + minutes[index]) % 65521;
        }
    }

    /** A person with factors, what is known of the person, and what the person consents to. */
    private static final class Person {
        private static final int MOST_WRONGS_IN_ROW = 5;

        private final int number;
        private final int[] states = new int[FACTORS];
        private final int[] wrongsInRow = new int[FACTORS];
        private int stickCounter;
        // Risk counts three wrong answers at most, so the minutes of the last three are enough.
        private int lastWrong = NONE;
        private int secondLastWrong = NONE;
        private int thirdLastWrong = NONE;
        private int knownDevices;
        private int knownPlaces;
        private final int[] consents = new int[SERVICES];
        private boolean isHelper;
        private boolean isAway;

        private Person(int number) {
            this.number = number;
        }

        int stateOf(int factor) {
            return isFactor(factor) ? states[factor] : ABSENT;
        }

        void makeReady(int factor) {
            if (!isFactor(factor)) {
                return;
            }
            states[factor] = READY;
            wrongsInRow[factor] = 0;
            if (factor == STICK) {
                stickCounter = 0;
            }
        }

        void loseFactors() {
            for (int i = 0; i < FACTORS; i++) {
                states[i] = ABSENT;
            }
        }

        int levelOfEnrolled() {
            int level = 0;
            for (int i = 0; i < FACTORS; i++) {
                if (states[i] != ABSENT) {
                    level += Shown.weightOf(i);
                }
            }
            return level;
        }

        boolean takes(int factor, boolean isRight, int counter) {
            if (!isFactor(factor) || states[factor] != READY) {
                return false;
            }
            if (!isRight) {
                wrongsInRow[factor]++;
                if (wrongsInRow[factor] >= MOST_WRONGS_IN_ROW) {
                    states[factor] = SUSPENDED;
                }
                return false;
            }
            if (factor == STICK && counter <= stickCounter) {
                states[factor] = SUSPENDED;
                return false;
            }
            wrongsInRow[factor] = 0;
            if (factor == STICK) {
                stickCounter = counter;
            }
            return true;
        }

        void noteWrong(int minute) {
            thirdLastWrong = secondLastWrong;
            secondLastWrong = lastWrong;
            lastWrong = minute;
        }

        int wrongsSince(int minute) {
            int first = Math.max(0, minute);
            return (lastWrong >= first ? 1 : 0) + (secondLastWrong >= first ? 1 : 0) + (thirdLastWrong >= first ? 1 : 0);
        }

        void learn(int device, int place) {
            knownDevices |= 1 << device;
            knownPlaces |= 1 << place;
        }
    }

    /** Steps of a sign-in, as a draft or as a version. */
    private static final class Flow {
        private static final int MOST_STEPS = 12;
        private static final int SETS = 8;

        private final int[] kinds = new int[MOST_STEPS];
        private final int[] firsts = new int[MOST_STEPS];
        private final int[] seconds = new int[MOST_STEPS];
        private final int[] yeses = new int[MOST_STEPS];
        private final int[] noes = new int[MOST_STEPS];
        private int count;

        int add(int kind, int a, int b, int yes, int no) {
            if (count < 0 || count >= MOST_STEPS) {
                return NONE;
            }
            kinds[count] = kind;
            firsts[count] = a;
            seconds[count] = b;
            yeses[count] = yes;
            noes[count] = no;
            count++;
            return count - 1;
        }

        boolean isThere(int step) {
            return step >= 0 && step < count && step < MOST_STEPS;
        }

        int kindOf(int step) {
            return isThere(step) ? kinds[step] : DENY;
        }

        int firstOf(int step) {
            return isThere(step) ? firsts[step] : 0;
        }

        int secondOf(int step) {
            return isThere(step) ? seconds[step] : 0;
        }

        int nextOf(int step, boolean isYes) {
            if (!isThere(step)) {
                return NONE;
            }
            return isYes ? yeses[step] : noes[step];
        }

        boolean isTest(int step) {
            return isWithin(kindOf(step), KNOWN, AT_LEAST);
        }

        boolean hasAllNextSteps() {
            for (int i = 0; i < count; i++) {
                if (kindOf(i) < GRANT && !(isNoneOrThere(nextOf(i, true)) && isNoneOrThere(nextOf(i, false)))) {
                    return false;
                }
            }
            return true;
        }

        private boolean isNoneOrThere(int step) {
            return step == NONE || isThere(step);
        }

        boolean hasLoopOfTests() {
            int leaving = 0;
            for (int round = 0; round < count; round++) {
                for (int i = 0; i < count; i++) {
                    if (!isTest(i) || leaves(nextOf(i, true), leaving) && leaves(nextOf(i, false), leaving)) {
                        leaving |= 1 << i;
                    }
                }
            }
            // A test from which each way leaves the tests is in no loop, and behind no more rounds than steps all such are found.
            return leaving != (1 << count) - 1;
        }

        private static boolean leaves(int step, int leaving) {
            return step == NONE || isIn(step, leaving);
        }

        int weakestLevel() {
            // For each step the sets of shown factors with which one can come to it: the set s is there as the bit s.
            int[] reached = new int[MOST_STEPS];
            reached[0] = 1;
            boolean isGrowing = true;
            for (int round = 0; round < MOST_STEPS * SETS && isGrowing; round++) {
                isGrowing = false;
                for (int i = 0; i < count && i < MOST_STEPS; i++) {
                    isGrowing |= spread(i, reached);
                }
            }
            int weakest = NONE;
            for (int i = 0; i < count && i < MOST_STEPS; i++) {
                if (kindOf(i) == GRANT) {
                    weakest = weaker(weakest, leastLevel(reached[i]));
                }
            }
            return weakest;
        }

        private boolean spread(int step, int[] reached) {
            boolean isGrowing = false;
            if (kindOf(step) >= GRANT || step >= reached.length) {
                return false;
            }
            for (int set = 0; set < SETS; set++) {
                if (isIn(set, reached[step])) {
                    isGrowing |= reach(nextOf(step, true), setBehindYes(step, set), reached);
                    isGrowing |= reach(nextOf(step, false), setBehindNo(step, set), reached);
                }
            }
            return isGrowing;
        }

        private int setBehindYes(int step, int set) {
            if (kindOf(step) == ASK) {
                return set | 1 << firstOf(step);
            }
            return kindOf(step) == AT_LEAST && Shown.levelOfSet(set) < firstOf(step) ? NONE : set;
        }

        private int setBehindNo(int step, int set) {
            return kindOf(step) == AT_LEAST && Shown.levelOfSet(set) >= firstOf(step) ? NONE : set;
        }

        private static boolean reach(int step, int set, int[] reached) {
            if (step < 0 || step >= reached.length || set == NONE || isIn(set, reached[step])) {
                return false;
            }
            reached[step] |= 1 << set;
            return true;
        }

        private static int leastLevel(int sets) {
            int least = NONE;
            for (int set = 0; set < SETS; set++) {
                if (isIn(set, sets)) {
                    least = weaker(least, Shown.levelOfSet(set));
                }
            }
            return least;
        }

        private static int weaker(int one, int other) {
            if (one == NONE || other == NONE) {
                return Math.max(one, other);
            }
            return Math.min(one, other);
        }
    }

    /** The factors that were shown, each with its minute. */
    private static final class Shown {
        private static final int[] WEIGHTS = {1, 2, 3};

        private final int[] minutes = {NONE, NONE, NONE};

        private Shown() {
        }

        private Shown(Shown copied) {
            for (int i = 0; i < FACTORS; i++) {
                minutes[i] = copied.minutes[i];
            }
        }

        static int weightOf(int factor) {
            return isFactor(factor) ? WEIGHTS[factor] : 0;
        }

        static int levelOfSet(int set) {
            int level = 0;
            for (int i = 0; i < FACTORS; i++) {
                if (isIn(i, set)) {
                    level += weightOf(i);
                }
            }
            return level;
        }

        void show(int factor, int minute) {
            if (isFactor(factor)) {
                minutes[factor] = minute;
            }
        }

        int levelSince(int minute) {
            int level = 0;
            for (int i = 0; i < FACTORS; i++) {
                if (minutes[i] != NONE && minutes[i] >= minute) {
                    level += weightOf(i);
                }
            }
            return level;
        }
    }

    /** A person's way through the version that was the newest when it began. */
    private static final class Attempt {
        private final Person person;
        private final int device;
        private final int place;
        private final Flow flow;
        private final Shown shown = new Shown();
        private int state = ASKING;
        private int step = NONE;
        private int wrongs;
        private int answers;
        private int session = NONE;

        private Attempt(Person person, int device, int place, Flow flow) {
            this.person = person;
            this.device = device;
            this.place = place;
            this.flow = flow;
        }

        void waitAt(int asking) {
            step = asking;
            wrongs = 0;
        }
    }

    /** A session; one by which a helper acts has the helper's own as its owner. */
    private static final class Session {
        private final int number;
        private final Person person;
        private final Session owner;
        private final Shown shown;
        private final int began;
        private int used;
        private boolean isLive = true;

        private Session(int number, Person person, Session owner, Shown shown, int began) {
            this.number = number;
            this.person = person;
            this.owner = owner;
            this.shown = shown;
            this.began = began;
            this.used = began;
        }

        int levelAt(int minute) {
            return shown.levelSince(minute - SHOWN_MINUTES);
        }

        boolean isOldAt(int minute) {
            return minute - used > IDLE_MINUTES || minute - began > SESSION_MINUTES;
        }
    }

    /** What a session granted a client: a code, and once that is redeemed the family of tokens. */
    private static final class Grant {
        private final Session session;
        private final int client;
        private final int audience;
        private final int scopes;
        private final int made;
        private int family = NONE;
        private boolean isGood;
        private int number;
        private int rotated;
        private int latestToken = NONE;
        private int audiences;
        private int toldServices;

        private Grant(Session session, int client, int audience, int scopes, int made) {
            this.session = session;
            this.client = client;
            this.audience = audience;
            this.scopes = scopes;
            this.made = made;
        }

        /** Tells a service of the end, if it is concerned and was not told; returns whether it is told by that. */
        boolean tell(int service) {
            if (!isIn(service, audiences) || isIn(service, toldServices)) {
                return false;
            }
            toldServices |= 1 << service;
            return true;
        }
    }

    /** An access token. */
    private static final class Token {
        private final Grant family;
        private final int client;
        private final int audience;
        private final int scopes;
        private final int acted;
        private final int key;
        private final int lastMinute;

        private Token(Grant family, int client, int audience, int scopes, int acted, int key, int lastMinute) {
            this.family = family;
            this.client = client;
            this.audience = audience;
            this.scopes = scopes;
            this.acted = acted;
            this.key = key;
            this.lastMinute = lastMinute;
        }
    }

    /** The keys: one signs, one may wait, and those published stand as bits of a set. */
    private static final class Keyring {
        private static final int MOST_KEYS = 20;
        private static final int WAITING_MINUTES = 5, RETIRING_MINUTES = 20;

        private int count = 1;
        private int signer;
        private int waiting = NONE;
        private int signsFrom;
        private int published = 1;
        private final int[] retiredFrom = new int[MOST_KEYS];

        int publishWaiting(int minute) {
            waiting = publishNext();
            signsFrom = minute + WAITING_MINUTES;
            return waiting;
        }

        private int publishNext() {
            published |= 1 << count;
            count++;
            return count - 1;
        }

        boolean isDueToSign(int minute) {
            return waiting != NONE && minute >= signsFrom;
        }

        void putWaitingToSign(int minute) {
            if (signer >= 0 && signer < MOST_KEYS) {
                retiredFrom[signer] = minute + RETIRING_MINUTES;
            }
            signer = waiting;
            waiting = NONE;
        }

        void replaceSigner() {
            published &= ~(1 << signer);
            signer = waiting != NONE ? waiting : publishNext();
            waiting = NONE;
        }

        void retire(int minute) {
            for (int i = 0; i < count && i < MOST_KEYS; i++) {
                if (retiredFrom[i] == minute) {
                    published &= ~(1 << i);
                }
            }
        }
    }

    /** A service, as an audience and as one that checks. */
    private static final class Service {
        private int neededLevel;
        private boolean isUp = true;
        private int cachedKeys = 1;
        private int fetched;
    }

    /** A recovery, with the set of those who have vouched and their levels together. */
    private static final class Recovery {
        private final Person person;
        private final int began;
        private boolean isOpen = true;
        private int vouchers;
        private int levels;

        private Recovery(Person person, int began) {
            this.person = person;
            this.began = began;
        }

        int countVouchers() {
            return Integer.bitCount(vouchers);
        }
    }
}
