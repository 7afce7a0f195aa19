import java.lang.reflect.InvocationTargetException;
import java.lang.reflect.Method;
import java.util.ArrayList;
import java.util.HashMap;
import java.util.List;
import java.util.Map;
import java.util.TreeMap;

/**
 * Runs of 512 calls by chance, the same ones each time, on the program and on the model.
 * Each answer and each exception must be the same, so also what is answered after a call that threw.
 */
public final class RunsByChanceTest {
    private static final int RUNS = 1500, CALLS = 511;
    private static final Due due = new Due();

    /** Of each method what its arguments are, so that most of them are in range. */
    private static final String[] ARGUMENTS = {
        "pass minutes", "enroll person factor", "factor person factor", "step kind a b next next", "clear", "publish", "weakest version",
        "points rule points flag", "begin person device place", "answer attempt flag counter", "state attempt", "asked attempt",
        "sessionOf attempt", "risk attempt", "trialRisk attempt", "sessions", "isLive session", "isLiveByAudit session", "level session",
        "stepUp session factor flag counter", "signOut session", "helper person", "act session person", "consent anyone service scopes",
        "withdraw person service", "need service level", "authorize session service service scopes", "redeem code", "refresh family number",
        "isGood family", "tokenOf family", "exchange token service scopes", "token token", "turn", "emergency", "signing", "isPublished key",
        "line service", "check service token scope", "lag token", "recover person", "vouch recovery session", "stop recovery session",
        "finish recovery", "link account anyone", "foreign account", "leave person", "audits", "audit entry", "sum", "sumAnew entries",
    };

    private final Map<String, Method> ofCourt = new HashMap<>();
    private final Map<String, Method> ofModel = new HashMap<>();
    private final Map<String, Integer> counts = new TreeMap<>();
    private final StringBuilder told = new StringBuilder();
    private long seed;
    private KeyringCourt court;
    private Model model;
    private int counter;
    private boolean isLong;

    public static void main(String[] args) throws IllegalAccessException {
        RunsByChanceTest test = new RunsByChanceTest();
        test.findMethods();
        for (int run = 0; run < RUNS; run++) {
            if (!test.isRunAsDue(run)) {
                break;
            }
        }
        test.requireThatAllWasSeen();
        due.end("RunsByChanceTest");
    }

    private void findMethods() {
        for (Method m : KeyringCourt.class.getDeclaredMethods()) {
            ofCourt.put(m.getName() + m.getParameterCount(), m);
        }
        for (Method m : Model.class.getDeclaredMethods()) {
            if (java.lang.reflect.Modifier.isPublic(m.getModifiers())) {
                ofModel.put(m.getName() + m.getParameterCount(), m);
            }
        }
    }

    private int chance(int below) {
        seed = seed * 6364136223846793005L + 1442695040888963407L;
        return (int) ((seed >>> 33) % below);
    }

    private boolean isRunAsDue(int run) throws IllegalAccessException {
        seed = 1000003L * run + 17;
        chance(2);
        court = new KeyringCourt();
        model = new Model();
        told.setLength(0);
        counter = 0;
        isLong = run % 20 == 10;
        int[] weights = new int[ARGUMENTS.length];
        int all = 0;
        for (int i = 0; i < weights.length; i++) {
            weights[i] = weightOf(ARGUMENTS[i].split(" ")[0], run);
            all += weights[i];
        }
        int calls = 0;
        while (calls < CALLS) {
            int pick = chance(all);
            int which = 0;
            while (pick >= weights[which]) {
                pick -= weights[which];
                which++;
            }
            if (calls < CALLS - 40 && chance(calls < 40 ? 4 : 16) == 0) {
                int made = playScene(run);
                if (made < 0) {
                    return false;
                }
                calls += made;
            } else {
                String[] words = ARGUMENTS[which].split(" ");
                if (isVain(words) && chance(20) > 0) {
                    continue;
                }
                if (!isAsDue(words[0], argumentsOf(words))) {
                    return false;
                }
                calls++;
            }
        }
        // The 512th call.
        due.is("run " + run + ": what is seen at last", model.sum(), court.sum());
        return true;
    }

    /** Which calls are frequent differs from run to run, so that limits are come to in some; what ends much is seldom. */
    private int weightOf(String name, int run) {
        if (name.equals("pass")) {
            return run % 10 == 0 ? 400 : run % 10 == 1 ? 0 : 6;
        }
        if (List.of("leave", "signOut", "clear", "withdraw", "redeem", "refresh", "link").contains(name)) {
            return 1 + chance(3);
        }
        if (name.equals("emergency")) {
            return run % 10 == 2 ? 60 : 1;
        }
        return chance(3) == 0 ? 24 : 3;
    }

    /** A few calls that belong together and come about by chance too seldom; returns how many, or -1 if one is not as due. */
    private int playScene(int run) throws IllegalAccessException {
        List<Object[]> calls = new ArrayList<>();
        int person = chance(6);
        switch (run % 10 == 1 && !model.families.isEmpty() ? 5 : chance(7)) {
            case 0:
                addFlow(calls);
                break;
            case 1:
                addHelp(calls, person);
                break;
            case 2:
                addGrant(calls, any("session"));
                break;
            case 3:
                for (int i = 0; i < 3; i++) {
                    calls.add(new Object[] {"begin", person, chance(2), chance(2)});
                    calls.add(new Object[] {"answer", model.attempts.size() + i, chance(3) > 0, ++counter});
                    calls.add(new Object[] {"answer", model.attempts.size() + i, chance(3) > 0, ++counter});
                }
                break;
            case 4:
                addRecovery(calls, person);
                break;
            case 5:
                if (!model.families.isEmpty()) {
                    addTokens(calls);
                }
                break;
            default:
                if (model.tokens.isEmpty()) {
                    break;
                }
                calls.add(new Object[] {"line", chance(4)});
                calls.add(new Object[] {"redeem", any("code")});
                for (int i = 0; i < 4; i++) {
                    int token = any("token");
                    int service = token < model.tokens.size() ? model.tokens.get(token).audience : 0;
                    calls.add(new Object[] {"check", service, token, chance(4)});
                    calls.add(new Object[] {"lag", token});
                }
                break;
        }
        for (Object[] call : calls) {
            Object[] values = java.util.Arrays.copyOfRange(call, 1, call.length);
            if (!isAsDue((String) call[0], values)) {
                return -1;
            }
        }
        return calls.size();
    }

    private void addHelp(List<Object[]> calls, int person) {
        int session = model.sessions.size();
        calls.add(new Object[] {"link", person, person});
        calls.add(new Object[] {"foreign", person});
        calls.add(new Object[] {"enroll", person, 2});
        calls.add(new Object[] {"stepUp", session, 2, true, 1 + chance(9)});
        if (!model.helpers.contains(person)) {
            calls.add(new Object[] {"helper", person});
        }
        for (int i = chance(4); i > 0; i--) {
            calls.add(new Object[] {"act", session, chance(6)});
        }
    }

    private void addGrant(List<Object[]> calls, int session) {
        int client = chance(4);
        if (chance(2) == 0) {
            calls.add(new Object[] {"consent", -1, client, chance(3) > 0 ? 15 : chance(16)});
        }
        calls.add(new Object[] {"authorize", session, client, chance(4), 1 + chance(15)});
        calls.add(new Object[] {"redeem", model.codes.size()});
    }

    private void addRecovery(List<Object[]> calls, int person) {
        int recovery = model.recoveries.size();
        if (model.away.contains(person) || model.sessions.isEmpty() || model.recoveries.size() == 20) {
            return;
        }
        calls.add(new Object[] {"recover", person});
        for (int i = 0; i < 3; i++) {
            calls.add(new Object[] {"vouch", recovery, any("session")});
        }
        calls.add(new Object[] {"pass", 10 + chance(20)});
        calls.add(new Object[] {"vouch", recovery, any("session")});
        calls.add(new Object[] {"pass", 30 + chance(20)});
        calls.add(new Object[] {"finish", recovery});
    }

    private void addTokens(List<Object[]> calls) {
        int family = any("family");
        int number = family < model.families.size() ? model.families.get(family).number : 0;
        for (int i = chance(30); i > 0; i--) {
            calls.add(new Object[] {"refresh", family, number++});
        }
        for (int i = chance(4); i > 0; i--) {
            calls.add(new Object[] {"exchange", any("token"), chance(4), 1 << chance(4)});
        }
        calls.add(new Object[] {"tokenOf", family});
        if (model.tokens.size() > 150) {
            addGrant(calls, any("session"));
        }
    }

    private void addFlow(List<Object[]> calls) {
        calls.add(new Object[] {"clear"});
        int steps = 2 + chance(11);
        for (int i = 0; i < steps; i++) {
            int kind = i == steps - 1 ? 5 : chance(20) == 0 ? 6 : chance(3) == 0 ? 1 + chance(4) : 0;
            int a = new int[] {chance(3), 0, chance(10), chance(3), chance(7), 0, 0}[kind];
            int onward = i + 1 + chance(Math.max(1, steps - i - 1));
            int other = kind == 0 ? chance(steps + 1) - 1 : chance(4) == 0 ? -1 : i + 1 + chance(Math.max(1, steps - i - 1));
            calls.add(new Object[] {"step", kind, a, kind == 0 ? 1 + chance(3) : 0, onward, other});
        }
        calls.add(new Object[] {"publish"});
        if (!model.versions.isEmpty()) {
            calls.add(new Object[] {"weakest", model.versions.size() - 1});
        }
    }

    /** A number of that kind, most often of one with which something can be done still. */
    private int any(String what) {
        int size = sizeOf(what);
        int number = size == 0 ? 0 : chance(3) == 0 ? size - 1 : chance(size);
        for (int i = 0; i < 20 && size > 0 && chance(6) > 0 && !isUsable(what, number); i++) {
            number = chance(size);
        }
        return number;
    }

    private boolean isUsable(String what, int number) {
        switch (what) {
            case "attempt":
                return model.attempts.get(number).state == 0;
            case "session":
                return model.sessions.get(number).live;
            case "family":
                return model.families.get(number).good;
            case "token":
                return model.minute <= model.tokens.get(number).end;
            case "recovery":
                return model.recoveries.get(number).open;
            default:
                return true;
        }
    }

    private boolean isVain(String[] words) {
        for (int i = 1; i < words.length; i++) {
            if (List.of("version", "attempt", "session", "code", "family", "token", "recovery", "entry").contains(words[i]) && sizeOf(words[i]) == 0) {
                return true;
            }
        }
        return false;
    }

    private Object[] argumentsOf(String[] words) {
        Object[] values = new Object[words.length - 1];
        for (int i = 0; i < values.length; i++) {
            values[i] = argument(words[i + 1], i == 0 ? 0 : values[0] instanceof Integer ? (Integer) values[0] : 0);
        }
        return values;
    }

    private Object argument(String what, int first) {
        if (what.equals("flag")) {
            return chance(3) > 0;
        }
        if (chance(60) == 0) {
            int[] wild = {Integer.MIN_VALUE, -3, -2, -1, 0, 6, 12, 16, 20, 21, 60, 200, 601, 10000, 65536, Integer.MAX_VALUE};
            return wild[chance(wild.length)];
        }
        switch (what) {
            case "minutes":
                return isLong ? 1 + chance(600) : chance(4) > 0 ? 1 + chance(6) : chance(4) > 0 ? 1 + chance(40) : 1 + chance(600);
            case "person":
            case "device":
            case "place":
            case "account":
                return chance(6);
            case "anyone":
                return chance(7) - 1;
            case "factor":
            case "rule":
                return chance(3);
            case "kind":
                return chance(7);
            case "a":
                return first == 0 || first == 3 ? chance(3) : first == 2 ? chance(21) : first == 4 ? chance(7) : 0;
            case "b":
                return first == 0 ? 1 + chance(3) : 0;
            case "next":
                return chance(6) - 1;
            case "points":
                return chance(7) - 1;
            case "counter":
                return chance(4) == 0 ? chance(20) : ++counter;
            case "service":
            case "scope":
                return chance(4);
            case "scopes":
                return chance(3) == 0 ? 1 << chance(4) : chance(16);
            case "level":
                return chance(3) > 0 ? chance(3) : chance(7);
            case "number":
                return first < 0 || first >= model.families.size() ? 0 : Math.max(0, model.families.get(first).number - (chance(3) == 0 ? chance(4) : 0));
            default:
                return any(what);
        }
    }

    private int sizeOf(String what) {
        switch (what) {
            case "version":
                return model.versions.size();
            case "attempt":
                return model.attempts.size();
            case "session":
                return model.sessions.size();
            case "code":
                return model.codes.size();
            case "family":
                return model.families.size();
            case "token":
                return model.tokens.size();
            case "key":
                return model.keys.size();
            case "recovery":
                return model.recoveries.size();
            case "entry":
                return model.entries.size();
            case "entries":
                return model.entries.size() + 1;
            default:
                throw new IllegalArgumentException(what);
        }
    }

    private boolean isAsDue(String name, Object[] values) throws IllegalAccessException {
        String want = played(ofModel.get(name + values.length), model, values);
        boolean isThrown = want.startsWith("throws.");
        String got = played(ofCourt.get(name + values.length), court, values);
        told.append(name).append(java.util.Arrays.toString(values)).append(" = ").append(got).append('\n');
        counts.merge(name + (isThrown ? " " + want : want.startsWith("-") || name.equals("check") ? " " + want : " answers"), 1, Integer::sum);
        if (!want.equals(got)) {
            due.fail("a run by chance, due at last is " + want + ":\n" + told);
            return false;
        }
        return true;
    }

    private static String played(Method method, Object whose, Object[] values) throws IllegalAccessException {
        try {
            return String.valueOf(method.invoke(whose, values));
        } catch (InvocationTargetException e) {
            RuntimeException thrown = (RuntimeException) e.getCause();
            boolean isOwn = whose instanceof Model || Due.isThrownByCourt(thrown);
            return "throws." + thrown.getClass().getSimpleName() + (isOwn ? "" : " by the machine");
        }
    }

    /** Each call must have answered, and have thrown all that it declares, somewhere in the runs. */
    private void requireThatAllWasSeen() {
        for (Method method : ofCourt.values()) {
            if (!java.lang.reflect.Modifier.isPublic(method.getModifiers())) {
                continue;
            }
            due.yes(method.getName() + " answered in some run", counts.containsKey(method.getName() + (method.getName().equals("check") ? " 0" : " answers")));
            for (Class<?> thrown : method.getExceptionTypes()) {
                due.yes(method.getName() + " threw " + thrown.getSimpleName() + " in some run", counts.containsKey(method.getName() + " throws." + thrown.getSimpleName()));
            }
        }
        for (int outcome = 0; outcome <= 5; outcome++) {
            due.yes("check told " + outcome + " in some run", counts.containsKey("check " + outcome));
        }
        if (Boolean.getBoolean("counts")) {
            counts.forEach((what, n) -> System.out.println(what + ": " + n));
        }
    }
}
