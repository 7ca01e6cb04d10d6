import java.lang.reflect.Constructor;
import java.lang.reflect.Member;
import java.lang.reflect.Method;
import java.lang.reflect.Modifier;
import java.util.ArrayList;
import java.util.Arrays;
import java.util.List;
import java.util.TreeSet;

/** The face of the class, word by word, and promise 1. */
public final class FaceTest {
    private static final String[] METHODS = {
        "int addKettle(int) IllegalArgumentException IllegalStateException",
        "float fill(int,int) IndexOutOfBoundsException IllegalArgumentException IllegalStateException",
        "int setBurner(int,int) IndexOutOfBoundsException IllegalArgumentException",
        "int order(int,int,int,int) IllegalArgumentException IllegalStateException",
        "int cancel(int) NoSuchElementException",
        "int serveNext() IllegalStateException",
        "int wash(int) IllegalArgumentException IllegalStateException",
        "float sellSteam(int) IllegalArgumentException IllegalStateException",
        "float setCupPrice(int) IllegalArgumentException",
        "float setSteamPrice(int) IllegalArgumentException",
        "boolean setAttendant(boolean)",
        "int pass(int) IllegalArgumentException",
        "float closeNight() IllegalStateException",
        "int kettleCount()",
        "float capacity(int) IndexOutOfBoundsException",
        "float volume(int) IndexOutOfBoundsException",
        "float temperature(int) IndexOutOfBoundsException",
        "int temperatureBits(int) IndexOutOfBoundsException",
        "int burner(int) IndexOutOfBoundsException",
        "boolean isBoiling(int) IndexOutOfBoundsException",
        "int minutesUntilBoiling(int) IndexOutOfBoundsException NoSuchElementException",
        "int minutesUntilBoilingByMinutes(int) IndexOutOfBoundsException NoSuchElementException",
        "int kettleByTemperature(int) NoSuchElementException",
        "int waitingCount()",
        "int orderAt(int) NoSuchElementException",
        "int positionOf(int) NoSuchElementException",
        "int cupsOf(int) NoSuchElementException",
        "float priceOf(int) NoSuchElementException",
        "int kettleFor(int) NoSuchElementException",
        "int minutesUntilSuitable(int) NoSuchElementException",
        "boolean canServe()",
        "int cleanCups()",
        "float steam()",
        "float boiledTotal()",
        "float pouredTotal()",
        "float filledTotal()",
        "float cupPrice()",
        "float steamPrice()",
        "float income()",
        "int nightCount()",
        "float nightIncome(int) IndexOutOfBoundsException",
        "int nightByIncome(int) NoSuchElementException",
        "float greatestIncome(int) IllegalArgumentException NoSuchElementException",
        "float greatestIncomeBySums(int) IllegalArgumentException NoSuchElementException",
        "float totalIncome()",
        "float totalIncomeBySales()",
        "int servedOrders()",
        "int whistlesHeard()",
        "int whistlesLost()",
        "double meanTemperature() ArithmeticException",
        "float lostShare() ArithmeticException",
        "boolean isBalanced()",
        "int formatKettle(int) IndexOutOfBoundsException",
        "int formatOrder(int) NoSuchElementException",
        "int formatLedger()",
        "char lineChar(int) IndexOutOfBoundsException",
        "int append(char) IllegalArgumentException IllegalStateException",
        "int run() IllegalArgumentException IllegalStateException",
        "int errorPosition() NoSuchElementException",
        "int failedCommand() NoSuchElementException",
        "int undoableCount()",
        "int undo() IllegalStateException",
        "int save()",
        "int restore() IllegalStateException",
    };

    public static void main(String[] args) {
        testClass();
        testMethods();
        testNoOtherMembers();
        testNewHouse();
        testHousesAreApart();
        Expect.end();
    }

    private static void testClass() {
        int modifiers = TeaHouse.class.getModifiers();
        Expect.yes("the class is public and final", Modifier.isPublic(modifiers) && Modifier.isFinal(modifiers));
        Constructor<?>[] constructors = TeaHouse.class.getDeclaredConstructors();
        Expect.same("the number of constructors", constructors.length, 1);
        Expect.yes("the constructor is public", Modifier.isPublic(constructors[0].getModifiers()));
        Expect.same("the constructor's parameters", constructors[0].getParameterCount(), 0);
    }

    private static void testMethods() {
        TreeSet<String> due = new TreeSet<>(Arrays.asList(METHODS));
        TreeSet<String> got = new TreeSet<>();
        for (Method method : TeaHouse.class.getDeclaredMethods()) {
            if (Modifier.isPublic(method.getModifiers())) {
                got.add(describe(method));
            }
        }
        Expect.same("the public methods", String.join("\n", got), String.join("\n", due));
    }

    private static void testNoOtherMembers() {
        List<Member> members = new ArrayList<>();
        members.addAll(Arrays.asList(TeaHouse.class.getDeclaredFields()));
        for (Method method : TeaHouse.class.getDeclaredMethods()) {
            if (!Modifier.isPublic(method.getModifiers())) {
                members.add(method);
            }
        }
        for (Member member : members) {
            Expect.yes(member.getName() + " is private",
                    member.isSynthetic() || Modifier.isPrivate(member.getModifiers()));
        }
    }

    private static String describe(Method method) {
        StringBuilder text = new StringBuilder();
        text.append(method.getReturnType().getSimpleName()).append(' ').append(method.getName()).append('(');
        String separator = "";
        for (Class<?> type : method.getParameterTypes()) {
            text.append(separator).append(type.getSimpleName());
            separator = ",";
        }
        text.append(')');
        for (Class<?> type : method.getExceptionTypes()) {
            text.append(' ').append(type.getSimpleName());
        }
        return text.toString();
    }

    private static void testNewHouse() {
        TeaHouse house = new TeaHouse();
        Expect.same("kettles at first", house.kettleCount(), 0);
        Expect.same("waiting at first", house.waitingCount(), 0);
        Expect.same("clean cups at first", house.cleanCups(), 20);
        Expect.same("steam at first", house.steam(), 0.0);
        Expect.same("boiled at first", house.boiledTotal(), 0.0);
        Expect.same("poured at first", house.pouredTotal(), 0.0);
        Expect.same("filled at first", house.filledTotal(), 0.0);
        Expect.same("cup price at first", house.cupPrice(), 1.5);
        Expect.same("steam price at first", house.steamPrice(), 2.0);
        Expect.same("income at first", house.income(), 0.0);
        Expect.same("nights at first", house.nightCount(), 0);
        Expect.same("total at first", house.totalIncome(), 0.0);
        Expect.same("total by sales at first", house.totalIncomeBySales(), 0.0);
        Expect.same("served at first", house.servedOrders(), 0);
        Expect.same("heard at first", house.whistlesHeard(), 0);
        Expect.same("lost at first", house.whistlesLost(), 0);
        Expect.same("undoable at first", house.undoableCount(), 0);
        Expect.no("can serve at first", house.canServe());
        Expect.yes("balanced at first", house.isBalanced());
        Expect.thrown("the line at first", IndexOutOfBoundsException.class, () -> house.lineChar(0));
        Expect.yes("an attendant at first", house.setAttendant(true));
    }

    private static void testHousesAreApart() {
        TeaHouse one = new TeaHouse();
        TeaHouse other = new TeaHouse();
        String before = Portrait.of(other);
        Words.run(one, "kettle 8;fill 0 4;burner 0 5;order 1 1 60 1;minutes 12;serve");
        one.save();
        Expect.same("another tea house", Portrait.of(other), before);
        Expect.thrown("another's saved copy", IllegalStateException.class, other::restore);
    }
}
