import java.lang.reflect.Constructor;
import java.lang.reflect.Field;
import java.lang.reflect.Member;
import java.lang.reflect.Method;
import java.lang.reflect.Modifier;
import java.util.Set;
import java.util.TreeSet;

/** The public face: its constants and signatures, and nothing else that can be seen from outside. */
public final class FaceTests {
    private static final Check CHECK = new Check("FaceTests");
    private static final String INDEX = "IndexOutOfBoundsException";
    private static final String ARGUMENT = "IllegalArgumentException";
    private static final String[] METHODS = {
        "int append(long)", "int load()", "int loadError()", "int count(int) 2", "int setting(int) 2", "int set(int,int) 2",
        "int spindleValue(int,int) 12", "int freeNozzles(int) 1", "int nozzleFor(int) 1", "int feederValue(int,int) 12",
        "int splice(int,int) 12", "int takeReel(int) 1", "int setMiss(int,int) 12", "int moveFeeder(int,int) 12",
        "int nearestFeeder(int) 1", "int spotValue(int,int) 12", "boolean leaveOut(int,boolean) 1", "int openSpots(int) 1",
        "int addBefore(int,int) 1", "boolean dropBefore(int,int) 1", "long blockedBy(int) 1", "int chain(int) 1",
        "long fillableSet()", "long filledSet()", "int newBoard()", "int boards()", "int changeNozzle(int,int) 1",
        "int pick(int,int) 1", "int look(int) 1", "int place(int,int) 1", "int discard(int) 1", "int clean(int) 1",
        "int nextAction()", "int step()", "int run(int) 2", "boolean isHalted()", "boolean resume()", "int ledger(int,int) 12",
        "boolean isBalanced()", "int now()", "int head(int) 2", "int done(int) 2", "int timeOf(int) 2", "int shareOf(int) 2",
        "int lookRate()", "int logSize()", "int logEntry(int,int) 2", "int actionsToEnd()", "int timeAtEnd()", "int filledAtEnd()",
        "int shortage(int) 1", "int shortageFor(int,int) 12", "int boardsPossible()", "int runsOut(int) 1", "int splicesAhead()",
        "int bestRetries()", "int dearestSpot()", "int bestSwap()", "int changesAhead()", "int cleansAhead()",
        "int saveSnapshot(int) 2", "int restoreSnapshot(int) 2",
    };

    public static void main(String[] args) {
        constants();
        methods();
        nothingElse();
        CHECK.end();
    }

    private static void constants() {
        CHECK.same("NONE", PlacerHead.NONE, -1);
        CHECK.same("FULL", PlacerHead.FULL, -2);
        CHECK.same("WRONG_STATE", PlacerHead.WRONG_STATE, -3);
        CHECK.same("EMPTY", PlacerHead.EMPTY, -4);
        CHECK.same("MISMATCH", PlacerHead.MISMATCH, -5);
        CHECK.same("BLOCKED", PlacerHead.BLOCKED, -6);
        CHECK.same("CIRCLE", PlacerHead.CIRCLE, -7);
    }

    private static String signature(Method method) {
        StringBuilder text = new StringBuilder(method.getReturnType().getName()).append(' ').append(method.getName()).append('(');
        String comma = "";
        for (Class<?> type : method.getParameterTypes()) {
            text.append(comma).append(type.getName());
            comma = ",";
        }
        text.append(')');
        String exceptions = "";
        for (Class<?> type : method.getExceptionTypes()) {
            exceptions += type.getSimpleName().equals(INDEX) ? "1" : type.getSimpleName().equals(ARGUMENT) ? "2" : "?";
        }
        return text.append(exceptions.isEmpty() ? "" : " " + exceptions).toString();
    }

    private static void methods() {
        Set<String> got = new TreeSet<>();
        for (Method method : PlacerHead.class.getDeclaredMethods()) {
            if (Modifier.isPublic(method.getModifiers()) && !method.isSynthetic()) {
                got.add(signature(method));
            }
        }
        for (String want : METHODS) {
            CHECK.yes("the face has " + want, got.remove(want));
        }
        CHECK.yes("the face has nothing else but " + got, got.isEmpty());
    }

    private static boolean isSeen(Member member) {
        return !Modifier.isPrivate(member.getModifiers()) && !member.isSynthetic();
    }

    private static void nothingElse() {
        CHECK.yes("the class is public and final", Modifier.isPublic(PlacerHead.class.getModifiers())
            && Modifier.isFinal(PlacerHead.class.getModifiers()));
        int fields = 0;
        for (Field field : PlacerHead.class.getDeclaredFields()) {
            fields += isSeen(field) ? 1 : 0;
        }
        CHECK.same("fields that are seen", fields, 7);
        Constructor<?>[] constructors = PlacerHead.class.getDeclaredConstructors();
        CHECK.yes("one public constructor", constructors.length == 1 && Modifier.isPublic(constructors[0].getModifiers())
            && constructors[0].getParameterCount() == 0);
        Set<String> names = new TreeSet<>();
        for (Method method : PlacerHead.class.getDeclaredMethods()) {
            if (isSeen(method)) {
                CHECK.yes("public: " + method.getName(), Modifier.isPublic(method.getModifiers()));
                names.add(method.getName());
            }
        }
        for (Class<?> inner : PlacerHead.class.getDeclaredClasses()) {
            CHECK.yes("static and not public: " + inner.getName(), Modifier.isStatic(inner.getModifiers())
                && !Modifier.isPublic(inner.getModifiers()) && !Modifier.isProtected(inner.getModifiers()));
            for (Method method : inner.getDeclaredMethods()) {
                CHECK.no("a name of the face inside: " + method.getName(), names.contains(method.getName()));
            }
        }
    }
}
