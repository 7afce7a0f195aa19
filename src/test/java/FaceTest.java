import java.lang.reflect.Constructor;
import java.lang.reflect.Field;
import java.lang.reflect.Method;
import java.lang.reflect.Modifier;
import java.util.ArrayList;
import java.util.Arrays;
import java.util.Collections;
import java.util.List;
import java.util.TreeSet;

/** The class has the face that the document shows, and no other member that can be seen from outside. */
public final class FaceTest {
    private static final String INDEX = "IndexOutOfBoundsException";
    private static final String ARGUMENT = "IllegalArgumentException";
    private static final String STATE = "IllegalStateException";

    private static final String[] METHODS = {
        "int pass(int) " + ARGUMENT + " " + STATE,
        "int enroll(int,int) " + INDEX + " " + ARGUMENT,
        "int factor(int,int) " + INDEX + " " + ARGUMENT,
        "int step(int,int,int,int,int) " + ARGUMENT + " " + STATE,
        "int clear()",
        "int publish() " + STATE,
        "int weakest(int) " + INDEX,
        "int points(int,int,boolean) " + ARGUMENT,
        "int begin(int,int,int) " + INDEX + " " + STATE,
        "int answer(int,boolean,int) " + INDEX + " " + ARGUMENT + " " + STATE,
        "int state(int) " + INDEX,
        "int asked(int) " + INDEX,
        "int sessionOf(int) " + INDEX,
        "int risk(int) " + INDEX,
        "int trialRisk(int) " + INDEX,
        "int sessions()",
        "boolean isLive(int) " + INDEX,
        "boolean isLiveByAudit(int) " + INDEX,
        "int level(int) " + INDEX,
        "int stepUp(int,int,boolean,int) " + INDEX + " " + ARGUMENT + " " + STATE,
        "int signOut(int) " + INDEX + " " + STATE,
        "boolean helper(int) " + INDEX,
        "int act(int,int) " + INDEX + " " + STATE,
        "int consent(int,int,int) " + INDEX + " " + ARGUMENT,
        "int withdraw(int,int) " + INDEX,
        "int need(int,int) " + INDEX + " " + ARGUMENT,
        "int authorize(int,int,int,int) " + INDEX + " " + ARGUMENT + " " + STATE,
        "int redeem(int) " + INDEX + " " + STATE,
        "int refresh(int,int) " + INDEX + " " + ARGUMENT + " " + STATE,
        "boolean isGood(int) " + INDEX,
        "int tokenOf(int) " + INDEX,
        "int exchange(int,int,int) " + INDEX + " " + ARGUMENT + " " + STATE,
        "int token(int) " + INDEX,
        "int turn() " + STATE,
        "int emergency() " + STATE,
        "int signing()",
        "boolean isPublished(int) " + INDEX,
        "int line(int) " + INDEX,
        "int check(int,int,int) " + INDEX + " " + ARGUMENT,
        "int lag(int) " + INDEX,
        "int recover(int) " + INDEX + " " + STATE,
        "int vouch(int,int) " + INDEX + " " + STATE,
        "int stop(int,int) " + INDEX + " " + STATE,
        "int finish(int) " + INDEX + " " + STATE,
        "int link(int,int) " + INDEX + " " + STATE,
        "int foreign(int) " + INDEX + " " + STATE,
        "int leave(int) " + INDEX,
        "int audits()",
        "int audit(int) " + INDEX,
        "int sum()",
        "int sumAnew(int) " + INDEX,
    };

    private static final String CONSTANTS = "NONE=-1 LOW=-2 UNASKED=-3"
        + " PASSWORD=0 CODE=1 STICK=2 ABSENT=0 READY=1 SUSPENDED=2"
        + " ASK=0 KNOWN=1 RISKY=2 HAS=3 AT_LEAST=4 GRANT=5 DENY=6"
        + " NEW_DEVICE=0 NEW_PLACE=1 WRONGS=2 ASKING=0 GRANTED=1 DENIED=2"
        + " GOOD=0 WRONG_AUDIENCE=1 TOO_OLD=2 NO_KEY=3 ENDED=4 NO_SCOPE=5";

    public static void main(String[] args) throws IllegalAccessException {
        Due due = new Due();
        due.yes("the class is public and final", (KeyringCourt.class.getModifiers() & (Modifier.PUBLIC | Modifier.FINAL)) == (Modifier.PUBLIC | Modifier.FINAL));
        compare(due, "methods", new TreeSet<String>(Arrays.asList(METHODS)), methods(due));
        compare(due, "constants", new TreeSet<String>(Arrays.asList(CONSTANTS.split(" "))), constants(due));
        constructors(due);
        nestedClasses(due);
        due.end("FaceTest");
    }

    private static void compare(Due due, String what, TreeSet<String> wanted, TreeSet<String> got) {
        TreeSet<String> missing = new TreeSet<String>(wanted);
        missing.removeAll(got);
        TreeSet<String> more = new TreeSet<String>(got);
        more.removeAll(wanted);
        due.yes(what + " missing " + missing, missing.isEmpty());
        due.yes(what + " too many " + more, more.isEmpty());
    }

    private static TreeSet<String> methods(Due due) {
        TreeSet<String> found = new TreeSet<String>();
        List<String> hidden = new ArrayList<String>();
        for (Method method : KeyringCourt.class.getDeclaredMethods()) {
            if (Modifier.isPrivate(method.getModifiers())) {
                hidden.add(method.getName());
                continue;
            }
            due.yes(method + " is public and of an object", Modifier.isPublic(method.getModifiers()) && !Modifier.isStatic(method.getModifiers()));
            found.add(described(method));
        }
        for (String line : METHODS) {
            String name = line.substring(line.indexOf(' ') + 1, line.indexOf('('));
            due.no("a private method named " + name, hidden.contains(name));
        }
        return found;
    }

    private static String described(Method method) {
        StringBuilder text = new StringBuilder();
        text.append(method.getReturnType().getSimpleName()).append(' ').append(method.getName()).append('(');
        for (int i = 0; i < method.getParameterTypes().length; i++) {
            text.append(i == 0 ? "" : ",").append(method.getParameterTypes()[i].getSimpleName());
        }
        text.append(')');
        for (Class<?> thrown : method.getExceptionTypes()) {
            text.append(' ').append(thrown.getSimpleName());
        }
        return text.toString();
    }

    private static TreeSet<String> constants(Due due) throws IllegalAccessException {
        TreeSet<String> found = new TreeSet<String>();
        int constant = Modifier.PUBLIC | Modifier.STATIC | Modifier.FINAL;
        for (Field field : KeyringCourt.class.getDeclaredFields()) {
            if (!Modifier.isPrivate(field.getModifiers())) {
                due.yes(field + " is a public constant", (field.getModifiers() & constant) == constant && field.getType() == int.class);
                found.add(field.getName() + "=" + field.getInt(null));
            }
        }
        return found;
    }

    private static void constructors(Due due) {
        Constructor<?>[] all = KeyringCourt.class.getDeclaredConstructors();
        due.is("how many constructors", 1, all.length);
        due.is("how many parameters of the constructor", 0, all[0].getParameterCount());
        due.yes("the constructor is public", Modifier.isPublic(all[0].getModifiers()));
        due.is("how many exceptions the constructor declares", 0, all[0].getExceptionTypes().length);
    }

    private static void nestedClasses(Due due) {
        for (Class<?> nested : KeyringCourt.class.getDeclaredClasses()) {
            int modifiers = nested.getModifiers();
            due.yes(nested + " is static and hidden", Modifier.isStatic(modifiers) && !Modifier.isPublic(modifiers) && !Modifier.isProtected(modifiers));
        }
        due.yes("at most twelve classes", KeyringCourt.class.getDeclaredClasses().length < 12);
        due.yes("no other base", Collections.singletonList(Object.class).contains(KeyringCourt.class.getSuperclass()));
    }
}
