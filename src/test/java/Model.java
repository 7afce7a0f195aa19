import java.util.ArrayList;
import java.util.HashMap;
import java.util.HashSet;
import java.util.List;
import java.util.Map;
import java.util.Set;

/**
 * The document's words again, written in another way than the program and without care for speed,
 * so that runs of calls by chance can be compared. Methods have the names of the face.
 */
final class Model {
    private static final int[] WEIGHT = {1, 2, 3};

    static final class Factor {
        String is = "absent";
        int row;
        int counter;
    }

    static final class Attempt {
        int person, device, place, step, wrong, answers, state, session = -1;
        List<int[]> flow;
        Map<Integer, Integer> shown = new HashMap<>();
    }

    static final class Session {
        int number, person, began, used, owner = -1;
        boolean live = true;
        Map<Integer, Integer> shown = new HashMap<>();
    }

    static final class Code {
        int session, client, audience, scopes, made, family = -1;
    }

    static final class Family {
        int session, client, audience, scopes, number, became;
        boolean good = true;
    }

    static final class Token {
        int client, audience, scopes, acted, family, key, made, end;
    }

    static final class Key {
        boolean withdrawn;
        int retired = Integer.MAX_VALUE;
    }

    static final class Recovery {
        int person, began;
        boolean open = true;
        Map<Integer, Integer> vouched = new HashMap<>();
    }

    int minute;
    final Factor[][] factors = new Factor[6][3];
    final List<int[]> wrongs = new ArrayList<>();
    final Set<String> known = new HashSet<>();
    final Set<Integer> helpers = new HashSet<>();
    final Set<Integer> away = new HashSet<>();
    final int[] hold = {2, 1, 1};
    final Map<Integer, Integer> trial = new HashMap<>();
    List<int[]> draft = new ArrayList<>();
    final List<List<int[]>> versions = new ArrayList<>();
    final List<Attempt> attempts = new ArrayList<>();
    final List<Session> sessions = new ArrayList<>();
    final Map<Integer, Integer> consents = new HashMap<>();
    final int[] needs = new int[4];
    final List<Code> codes = new ArrayList<>();
    final List<Family> families = new ArrayList<>();
    final List<Token> tokens = new ArrayList<>();
    final List<Key> keys = new ArrayList<>();
    int signer;
    int waits = -1;
    int turned;
    final boolean[] down = new boolean[4];
    final List<Set<Integer>> cache = new ArrayList<>();
    final int[] fetched = new int[4];
    final Set<String> told = new HashSet<>();
    final List<Set<Integer>> toTell = new ArrayList<>();
    final List<Recovery> recoveries = new ArrayList<>();
    final Map<Integer, Integer> links = new HashMap<>();
    final List<int[]> entries = new ArrayList<>();

    Model() {
        for (int p = 0; p < 6; p++) {
            for (int f = 0; f < 3; f++) {
                factors[p][f] = new Factor();
            }
        }
        keys.add(new Key());
        for (int s = 0; s < 4; s++) {
            cache.add(new HashSet<>(Set.of(0)));
            toTell.add(new HashSet<>());
        }
    }

    // ---- exceptions

    private static void there(boolean is) {
        if (!is) {
            throw new IndexOutOfBoundsException();
        }
    }

    private static void in(int value, int size) {
        there(0 <= value && value < size);
    }

    private static void range(int value, int least, int most) {
        if (value < least || most < value) {
            throw new IllegalArgumentException();
        }
    }

    private static void not(boolean is) {
        if (is) {
            throw new IllegalStateException();
        }
    }

    // ---- time, factors

    public int pass(int minutes) {
        range(minutes, 1, 600);
        not(minute + minutes > 30000);
        int ended = 0;
        for (int i = 0; i < minutes; i++) {
            minute++;
            if (waits >= 0 && minute == turned + 5) {
                keys.get(signer).retired = minute + 20;
                signer = waits;
                waits = -1;
                note(5, signer);
            }
            for (Session s : new ArrayList<>(sessions)) {
                if (s.live && (s.used + 30 < minute || s.began + 480 < minute)) {
                    ended += end(s);
                }
            }
        }
        return ended;
    }

    public int enroll(int person, int factor) {
        int was = factor(person, factor);
        factors[person][factor] = new Factor();
        factors[person][factor].is = "ready";
        return was;
    }

    public int factor(int person, int factor) {
        in(person, 6);
        range(factor, 0, 2);
        return List.of("absent", "ready", "suspended").indexOf(factors[person][factor].is);
    }

    private boolean answerFor(int person, int factor, boolean right, int counter) {
        Factor f = factors[person][factor];
        boolean ok;
        boolean suspend = false;
        if (!f.is.equals("ready")) {
            ok = false;
        } else if (factor == 2 && right && !(counter > f.counter)) {
            ok = false;
            suspend = true;
        } else if (right) {
            ok = true;
            f.row = 0;
            f.counter = counter;
        } else {
            ok = false;
            f.row++;
            suspend = f.row == 5;
        }
        if (suspend) {
            f.is = "suspended";
            note(4, 3 * person + factor);
        }
        if (!ok) {
            wrongs.add(new int[] {person, minute});
        }
        return ok;
    }

    // ---- flows

    public int step(int kind, int a, int b, int yes, int no) {
        range(kind, 0, 6);
        range(a, 0, new int[] {2, 0, 20, 2, 6, 0, 0}[kind]);
        range(b, kind == 0 ? 1 : 0, kind == 0 ? 3 : 0);
        if (kind != 5 && kind != 6) {
            range(yes, -1, 11);
            range(no, -1, 11);
        }
        not(draft.size() == 12);
        draft.add(new int[] {kind, a, b, yes, no});
        return draft.size() - 1;
    }

    public int clear() {
        int n = draft.size();
        draft = new ArrayList<>();
        return n;
    }

    private static boolean test(int[] step) {
        return step[0] >= 1 && step[0] <= 4;
    }

    public int publish() {
        not(draft.isEmpty());
        not(versions.size() == 8);
        for (int[] s : draft) {
            not(s[0] <= 4 && (s[3] >= draft.size() || s[4] >= draft.size()));
        }
        for (int i = 0; i < draft.size(); i++) {
            Set<Integer> seen = new HashSet<>();
            if (test(draft.get(i))) {
                byTests(i, seen);
            }
            not(seen.contains(i));
        }
        versions.add(draft);
        draft = new ArrayList<>();
        return versions.size() - 1;
    }

    private void byTests(int from, Set<Integer> seen) {
        for (int k = 3; k <= 4; k++) {
            int next = draft.get(from)[k];
            if (next >= 0 && test(draft.get(next)) && seen.add(next)) {
                byTests(next, seen);
            }
        }
    }

    public int weakest(int version) {
        in(version, versions.size());
        return least(versions.get(version), 0, new HashSet<>(), new HashSet<>());
    }

    private int least(List<int[]> flow, int at, Set<Integer> shown, Set<String> seen) {
        if (at < 0 || !seen.add(at + " " + shown)) {
            return -1;
        }
        int[] s = flow.get(at);
        int level = shown.stream().mapToInt(f -> WEIGHT[f]).sum();
        switch (s[0]) {
            case 0:
                Set<Integer> more = new HashSet<>(shown);
                more.add(s[1]);
                return lower(least(flow, s[3], more, seen), least(flow, s[4], shown, seen));
            case 1:
            case 2:
            case 3:
                return lower(least(flow, s[3], shown, seen), least(flow, s[4], shown, seen));
            case 4:
                return least(flow, level >= s[1] ? s[3] : s[4], shown, seen);
            case 5:
                return level;
            default:
                return -1;
        }
    }

    private static int lower(int a, int b) {
        return a < 0 ? b : b < 0 ? a : Math.min(a, b);
    }

    // ---- risk and attempts

    public int points(int rule, int points, boolean isTrial) {
        range(rule, 0, 2);
        range(points, isTrial ? -1 : 0, 5);
        int before;
        if (isTrial) {
            before = trial.getOrDefault(rule, -1);
            trial.remove(rule);
            if (points >= 0) {
                trial.put(rule, points);
            }
        } else {
            before = hold[rule];
            hold[rule] = points;
        }
        return before;
    }

    public int begin(int person, int device, int place) {
        in(person, 6);
        in(device, 6);
        in(place, 6);
        not(versions.isEmpty());
        not(away.contains(person));
        not(attempts.size() == 60);
        Attempt a = new Attempt();
        a.person = person;
        a.device = device;
        a.place = place;
        a.flow = versions.get(versions.size() - 1);
        attempts.add(a);
        come(a, 0);
        return attempts.size() - 1;
    }

    private void come(Attempt a, int to) {
        int at = to;
        while (at >= 0 && test(a.flow.get(at))) {
            int[] s = a.flow.get(at);
            boolean holds;
            if (s[0] == 1) {
                holds = known.contains("device " + a.person + " " + a.device);
            } else if (s[0] == 2) {
                holds = risk(a, false) >= s[1];
            } else if (s[0] == 3) {
                holds = factors[a.person][s[1]].is.equals("ready");
            } else {
                holds = a.shown.keySet().stream().mapToInt(f -> WEIGHT[f]).sum() >= s[1];
            }
            at = s[holds ? 3 : 4];
        }
        a.step = at;
        a.wrong = 0;
        int kind = at < 0 ? 6 : a.flow.get(at)[0];
        a.state = kind == 0 ? 0 : kind == 5 && sessions.size() < 60 ? 1 : 2;
        if (a.state == 1) {
            a.session = start(a.person, -1, a.shown);
            known.add("device " + a.person + " " + a.device);
            known.add("place " + a.person + " " + a.place);
        }
    }

    private int risk(Attempt a, boolean isTrial) {
        int[] p = new int[3];
        for (int r = 0; r < 3; r++) {
            p[r] = isTrial ? trial.getOrDefault(r, hold[r]) : hold[r];
        }
        int n = 0;
        for (int[] w : wrongs) {
            if (w[0] == a.person && w[1] > minute - 60) {
                n++;
            }
        }
        int risk = p[2] * Math.min(3, n);
        risk += known.contains("device " + a.person + " " + a.device) ? 0 : p[0];
        risk += known.contains("place " + a.person + " " + a.place) ? 0 : p[1];
        return risk;
    }

    public int answer(int attempt, boolean isRight, int counter) {
        in(attempt, attempts.size());
        range(counter, 0, 9999);
        Attempt a = attempts.get(attempt);
        not(a.state != 0);
        int[] s = a.flow.get(a.step);
        a.answers++;
        if (answerFor(a.person, s[1], isRight, counter)) {
            a.shown.put(s[1], minute);
            come(a, s[3]);
        } else if (++a.wrong == s[2]) {
            come(a, s[4]);
        }
        if (a.answers == 12 && a.state == 0) {
            a.state = 2;
        }
        return a.state;
    }

    public int state(int attempt) {
        in(attempt, attempts.size());
        return attempts.get(attempt).state;
    }

    public int asked(int attempt) {
        in(attempt, attempts.size());
        Attempt a = attempts.get(attempt);
        return a.state == 0 ? a.flow.get(a.step)[1] : -1;
    }

    public int sessionOf(int attempt) {
        in(attempt, attempts.size());
        return attempts.get(attempt).session;
    }

    public int risk(int attempt) {
        in(attempt, attempts.size());
        return risk(attempts.get(attempt), false);
    }

    public int trialRisk(int attempt) {
        in(attempt, attempts.size());
        return risk(attempts.get(attempt), true);
    }

    // ---- sessions

    private int start(int person, int owner, Map<Integer, Integer> shown) {
        Session s = new Session();
        s.number = sessions.size();
        s.person = person;
        s.owner = owner;
        s.began = minute;
        s.used = minute;
        s.shown = new HashMap<>(shown);
        sessions.add(s);
        note(0, s.number);
        return s.number;
    }

    private int end(Session s) {
        if (!s.live) {
            return 0;
        }
        s.live = false;
        note(1, s.number);
        int ended = 1;
        for (Session other : sessions) {
            if (other.owner == s.number) {
                ended += end(other);
            }
        }
        for (int f = 0; f < families.size(); f++) {
            if (families.get(f).session == s.number) {
                endFamily(f);
            }
        }
        return ended;
    }

    private int endAll(int person) {
        int ended = 0;
        for (Session s : sessions) {
            if (s.person == person) {
                ended += end(s);
            }
        }
        return ended;
    }

    private int levelOf(Session s) {
        int level = 0;
        for (Map.Entry<Integer, Integer> e : s.shown.entrySet()) {
            if (minute - e.getValue() <= 120) {
                level += WEIGHT[e.getKey()];
            }
        }
        return level;
    }

    public int sessions() {
        return sessions.size();
    }

    public boolean isLive(int session) {
        in(session, sessions.size());
        return sessions.get(session).live;
    }

    public boolean isLiveByAudit(int session) {
        in(session, sessions.size());
        boolean live = false;
        for (int[] e : entries) {
            if (e[0] <= 1 && e[1] == session) {
                live = e[0] == 0;
            }
        }
        return live;
    }

    public int level(int session) {
        in(session, sessions.size());
        return levelOf(sessions.get(session));
    }

    public int stepUp(int session, int factor, boolean isRight, int counter) {
        in(session, sessions.size());
        range(factor, 0, 2);
        range(counter, 0, 9999);
        Session s = sessions.get(session);
        not(!s.live);
        not(s.owner >= 0);
        if (answerFor(s.person, factor, isRight, counter)) {
            s.shown.put(factor, minute);
        }
        s.used = minute;
        return levelOf(s);
    }

    public int signOut(int session) {
        in(session, sessions.size());
        not(!sessions.get(session).live);
        return end(sessions.get(session));
    }

    public boolean helper(int person) {
        in(person, 6);
        if (helpers.remove(person)) {
            return false;
        }
        return helpers.add(person);
    }

    public int act(int session, int person) {
        in(session, sessions.size());
        in(person, 6);
        Session s = sessions.get(session);
        not(!s.live);
        not(s.owner >= 0);
        not(levelOf(s) < 3);
        not(!helpers.contains(s.person));
        not(s.person == person);
        not(away.contains(person));
        not(sessions.size() == 60);
        return start(person, session, s.shown);
    }

    // ---- consent, codes, families, tokens

    public int consent(int person, int client, int scopes) {
        there(person == -1 || person >= 0 && person < 6);
        in(client, 4);
        range(scopes, 0, 15);
        return consents.merge(10 * person + client, scopes, (x, y) -> x | y);
    }

    public int withdraw(int person, int client) {
        in(person, 6);
        in(client, 4);
        consents.remove(10 * person + client);
        int ended = 0;
        for (int f = 0; f < families.size(); f++) {
            Family family = families.get(f);
            if (family.client == client && sessions.get(family.session).person == person) {
                ended += endFamily(f);
            }
        }
        return ended;
    }

    public int need(int audience, int level) {
        in(audience, 4);
        range(level, 0, 6);
        int before = needs[audience];
        needs[audience] = level;
        return before;
    }

    public int authorize(int session, int client, int audience, int scopes) {
        in(session, sessions.size());
        in(client, 4);
        in(audience, 4);
        range(scopes, 1, 15);
        Session s = sessions.get(session);
        not(!s.live);
        not(codes.size() == 60);
        s.used = minute;
        for (int scope = 0; scope < 4; scope++) {
            int bit = 1 << scope;
            boolean byPerson = (consents.getOrDefault(10 * s.person + client, 0) & bit) != 0;
            boolean forAll = (consents.getOrDefault(-10 + client, 0) & bit) != 0;
            if ((scopes & bit) != 0 && !byPerson && !forAll) {
                return -3;
            }
        }
        if (levelOf(s) < needs[audience]) {
            return -2;
        }
        Code c = new Code();
        c.session = session;
        c.client = client;
        c.audience = audience;
        c.scopes = scopes;
        c.made = minute;
        codes.add(c);
        return codes.size() - 1;
    }

    public int redeem(int code) {
        in(code, codes.size());
        Code c = codes.get(code);
        if (c.family >= 0) {
            endFamily(c.family);
            return -1;
        }
        if (minute > c.made + 5 || !sessions.get(c.session).live) {
            return -1;
        }
        not(tokens.size() == 200);
        Family f = new Family();
        f.session = c.session;
        f.client = c.client;
        f.audience = c.audience;
        f.scopes = c.scopes;
        c.family = families.size();
        families.add(f);
        note(2, c.family);
        make(c.family, f.client, f.audience, f.scopes, 0, minute + 10);
        return c.family;
    }

    private int make(int family, int client, int audience, int scopes, int acted, int end) {
        Token t = new Token();
        t.family = family;
        t.client = client;
        t.audience = audience;
        t.scopes = scopes;
        t.acted = acted;
        t.end = end;
        t.key = signer;
        tokens.add(t);
        return tokens.size() - 1;
    }

    private int endFamily(int number) {
        Family f = families.get(number);
        if (!f.good) {
            return 0;
        }
        f.good = false;
        note(3, number);
        for (Token t : tokens) {
            if (t.family == number) {
                if (down[t.audience]) {
                    toTell.get(t.audience).add(number);
                } else {
                    told.add(t.audience + " " + number);
                }
            }
        }
        return 1;
    }

    public int refresh(int family, int number) {
        in(family, families.size());
        Family f = families.get(family);
        range(number, 0, f.number);
        if (!f.good || !sessions.get(f.session).live) {
            return -1;
        }
        if (number == f.number) {
            not(tokens.size() == 200);
            f.number++;
            f.became = minute;
            make(family, f.client, f.audience, f.scopes, 0, minute + 10);
            sessions.get(f.session).used = minute;
            return f.number;
        }
        if (number + 1 == f.number && (f.became == minute || f.became == minute - 1)) {
            return f.number;
        }
        endFamily(family);
        return -1;
    }

    public boolean isGood(int family) {
        in(family, families.size());
        return families.get(family).good;
    }

    public int tokenOf(int family) {
        in(family, families.size());
        int latest = -1;
        for (int t = 0; t < tokens.size(); t++) {
            if (tokens.get(t).family == family) {
                latest = t;
            }
        }
        return latest;
    }

    public int exchange(int token, int audience, int scopes) {
        in(token, tokens.size());
        in(audience, 4);
        range(scopes, 1, 15);
        Token t = tokens.get(token);
        range(scopes | t.scopes, t.scopes, t.scopes);
        not(minute > t.end);
        not(!families.get(t.family).good);
        not(t.acted >= 3);
        not(tokens.size() == 200);
        if (levelOf(sessions.get(families.get(t.family).session)) < needs[audience]) {
            return -2;
        }
        return make(t.family, t.audience, audience, scopes, t.acted + 1, t.end);
    }

    public int token(int token) {
        in(token, tokens.size());
        Token t = tokens.get(token);
        return Integer.parseInt(t.end + "" + t.client + t.audience + t.acted);
    }

    // ---- keys, services, checks

    public int turn() {
        not(waits >= 0);
        not(keys.size() == 20);
        keys.add(new Key());
        waits = keys.size() - 1;
        turned = minute;
        return waits;
    }

    public int emergency() {
        not(waits < 0 && keys.size() == 20);
        keys.get(signer).withdrawn = true;
        if (waits < 0) {
            keys.add(new Key());
            waits = keys.size() - 1;
        }
        signer = waits;
        waits = -1;
        note(5, signer);
        return signer;
    }

    public int signing() {
        return signer;
    }

    public boolean isPublished(int key) {
        in(key, keys.size());
        return !keys.get(key).withdrawn && minute < keys.get(key).retired;
    }

    public int line(int service) {
        in(service, 4);
        down[service] = !down[service];
        if (down[service]) {
            return 0;
        }
        int n = toTell.get(service).size();
        for (int f : toTell.get(service)) {
            told.add(service + " " + f);
        }
        toTell.get(service).clear();
        return n;
    }

    public int check(int service, int token, int scope) {
        in(service, 4);
        in(token, tokens.size());
        range(scope, 0, 3);
        Token t = tokens.get(token);
        if (t.audience != service) {
            return 1;
        }
        if (minute > t.end) {
            return 2;
        }
        if (!down[service] && (minute > fetched[service] + 15 || !cache.get(service).contains(t.key))) {
            cache.get(service).clear();
            fetched[service] = minute;
            for (int k = 0; k < keys.size(); k++) {
                if (isPublished(k)) {
                    cache.get(service).add(k);
                }
            }
        }
        if (!cache.get(service).contains(t.key)) {
            return 3;
        }
        if (told.contains(service + " " + t.family)) {
            return 4;
        }
        return (t.scopes >> scope) % 2 == 0 ? 5 : 0;
    }

    public int lag(int token) {
        in(token, tokens.size());
        Token t = tokens.get(token);
        int n = 0;
        for (int m = minute; m <= t.end; m++) {
            if (!families.get(t.family).good && !told.contains(t.audience + " " + t.family)) {
                n++;
            }
        }
        return n;
    }

    // ---- recovery, foreign accounts, leaving

    public int recover(int person) {
        in(person, 6);
        not(away.contains(person));
        not(recoveries.size() == 20);
        for (Recovery r : recoveries) {
            not(r.open && r.person == person);
        }
        Recovery r = new Recovery();
        r.person = person;
        r.began = minute;
        recoveries.add(r);
        return recoveries.size() - 1;
    }

    public int vouch(int recovery, int session) {
        in(recovery, recoveries.size());
        in(session, sessions.size());
        Recovery r = recoveries.get(recovery);
        Session s = sessions.get(session);
        not(!r.open);
        not(!s.live);
        not(levelOf(s) < 3);
        not(s.person == r.person);
        not(s.owner >= 0);
        not(r.vouched.containsKey(s.person));
        r.vouched.put(s.person, levelOf(s));
        return r.vouched.values().stream().mapToInt(x -> x).sum();
    }

    public int stop(int recovery, int session) {
        in(recovery, recoveries.size());
        in(session, sessions.size());
        Recovery r = recoveries.get(recovery);
        Session s = sessions.get(session);
        not(!r.open);
        not(!s.live);
        not(s.person != r.person);
        not(s.owner >= 0);
        r.open = false;
        return r.vouched.size();
    }

    public int finish(int recovery) {
        in(recovery, recoveries.size());
        Recovery r = recoveries.get(recovery);
        not(!r.open);
        not(r.began > minute - 60);
        not(r.vouched.size() < 2);
        int all = 0;
        for (int f = 0; f < 3; f++) {
            all += factors[r.person][f].is.equals("absent") ? 0 : WEIGHT[f];
        }
        not(r.vouched.values().stream().mapToInt(x -> x).sum() < all);
        r.open = false;
        note(6, recovery);
        int ended = endAll(r.person);
        for (int f = 0; f < 3; f++) {
            factors[r.person][f] = new Factor();
        }
        enroll(r.person, 0);
        return ended;
    }

    public int link(int account, int person) {
        in(account, 6);
        there(person == -1 || person >= 0 && person < 6);
        int before = links.getOrDefault(account, -1);
        not(person != -1 && before != -1 && before != person);
        links.put(account, person);
        return before;
    }

    public int foreign(int account) {
        in(account, 6);
        int person = links.getOrDefault(account, -1);
        not(person == -1);
        not(away.contains(person));
        not(sessions.size() == 60);
        return start(person, -1, new HashMap<>());
    }

    public int leave(int person) {
        in(person, 6);
        if (away.remove(person)) {
            return -1;
        }
        away.add(person);
        for (Attempt a : attempts) {
            if (a.person == person && a.state == 0) {
                a.state = 2;
            }
        }
        for (Recovery r : recoveries) {
            r.open &= r.person != person;
        }
        return endAll(person);
    }

    // ---- audit

    private void note(int kind, int number) {
        entries.add(new int[] {kind, number, minute});
    }

    public int audits() {
        return entries.size();
    }

    public int audit(int entry) {
        in(entry, entries.size());
        return 1000 * entries.get(entry)[0] + entries.get(entry)[1];
    }

    public int sum() {
        return sumAnew(entries.size());
    }

    public int sumAnew(int howMany) {
        in(howMany, entries.size() + 1);
        long sum = 7;
        for (int[] e : entries.subList(0, howMany)) {
            sum = (31 * sum + 100 * e[0] + e[1] + e[2]) % 65521;
        }
        return (int) sum;
    }
}
