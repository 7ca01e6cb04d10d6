import java.lang.reflect.InvocationTargetException;
import java.lang.reflect.Method;
import java.util.ArrayList;
import java.util.HashMap;
import java.util.HashSet;
import java.util.List;
import java.util.Map;
import java.util.Random;
import java.util.Set;

/** All promises: the same runs of calls, drawn from fixed seeds, on a TeaHouse and on a PlainHouse. */
public final class RandomRunsTest {
    private static final int RUNS = 1500;
    private static final int CALLS = 512;
    private static final String[] CHANGES = {"addKettle", "fill", "setBurner", "order", "cancel", "serveNext",
        "wash", "sellSteam", "setCupPrice", "setSteamPrice", "setAttendant", "pass", "closeNight"};
    private static final String[] KETTLE_QUESTIONS = {"capacity", "volume", "temperature", "temperatureBits",
        "burner", "isBoiling", "minutesUntilBoiling", "minutesUntilBoilingByMinutes", "formatKettle",
        "kettleByTemperature"};
    private static final String[] ORDER_QUESTIONS = {"positionOf", "cupsOf", "priceOf", "kettleFor",
        "minutesUntilSuitable", "formatOrder", "orderAt"};
    private static final String[] PLAIN_QUESTIONS = {"kettleCount", "waitingCount", "canServe", "cleanCups",
        "steam", "boiledTotal", "pouredTotal", "filledTotal", "cupPrice", "steamPrice", "income", "nightCount",
        "totalIncome", "totalIncomeBySales", "servedOrders", "whistlesHeard", "whistlesLost", "meanTemperature",
        "lostShare", "isBalanced", "formatLedger", "errorPosition", "failedCommand", "undoableCount"};
    private static final String[] NIGHT_QUESTIONS = {"nightIncome", "nightByIncome", "greatestIncome",
        "greatestIncomeBySums"};
    private static final int[] STRANGE = {-1, 0, 1, 4, 10, 14, 15, 16, 17, 20, 21, 80, 81, 120, 121,
        Integer.MIN_VALUE, Integer.MAX_VALUE, 1 << 30};

    private final Map<String, Method> methods = new HashMap<>();
    private final Set<String> seen = new HashSet<>();
    private Random random = new Random(0);
    private TeaHouse house = new TeaHouse();
    private PlainHouse plain = new PlainHouse();
    private List<String> calls = new ArrayList<>();
    private int ordered = 0;
    private boolean isRight = true;

    public static void main(String[] args) {
        new RandomRunsTest().runAll();
        Expect.end();
    }

    private void runAll() {
        for (Method method : TeaHouse.class.getMethods()) {
            methods.put(method.getName(), method);
        }
        for (int seed = 0; seed < RUNS && isRight; seed++) {
            random = new Random(seed);
            house = new TeaHouse();
            plain = new PlainHouse();
            calls = new ArrayList<>();
            ordered = 0;
            int kettles = random.nextInt(5);
            for (int i = 0; i < kettles; i++) {
                call("addKettle", between(2, 16));
            }
            while (calls.size() < CALLS && isRight) {
                callSomething();
            }
        }
        for (Method method : TeaHouse.class.getDeclaredMethods()) {
            if (java.lang.reflect.Modifier.isPublic(method.getModifiers())) {
                Expect.yes(method.getName() + " was called and answered", seen.contains(method.getName()));
            }
        }
    }

    private void callSomething() {
        int kind = random.nextInt(100);
        if (kind < 50) {
            String method = CHANGES[random.nextInt(CHANGES.length)];
            call(method, arguments(method));
        } else if (kind < 62) {
            call(one(KETTLE_QUESTIONS), strangeOr(between(-1, 4)));
        } else if (kind < 71) {
            call(one(ORDER_QUESTIONS), strangeOr(orderNumber()));
        } else if (kind < 80) {
            call(one(PLAIN_QUESTIONS));
        } else if (kind < 85) {
            call(one(NIGHT_QUESTIONS), strangeOr(between(-1, 15)));
        } else if (kind < 91) {
            call("lineChar", strangeOr(between(-1, 20)));
        } else if (kind < 96) {
            runProgram();
        } else if (kind < 98) {
            call("undo");
        } else {
            call(random.nextInt(3) == 0 ? "restore" : "save");
        }
    }

    private int[] arguments(String method) {
        switch (method) {
            case "addKettle": return new int[] {strangeOr(between(1, 17))};
            case "fill": return new int[] {strangeOr(between(0, 3)), strangeOr(between(1, 8))};
            case "setBurner": return new int[] {strangeOr(between(0, 3)), strangeOr(between(0, 5))};
            case "order":
                return new int[] {strangeOr(between(0, 9)), strangeOr(between(1, 6)),
                    strangeOr(between(60, 100)), strangeOr(between(1, 9))};
            case "cancel": return new int[] {strangeOr(orderNumber())};
            case "wash": return new int[] {strangeOr(between(1, 10))};
            case "sellSteam": return new int[] {strangeOr(between(1, 20))};
            case "setCupPrice": case "setSteamPrice": return new int[] {strangeOr(between(0, 81))};
            case "setAttendant": return new int[] {between(0, 1)};
            case "pass": return new int[] {strangeOr(random.nextInt(6) == 0 ? between(1, 120) : between(1, 12))};
            default: return new int[0];
        }
    }

    private void runProgram() {
        String program = program();
        if (random.nextInt(3) == 0 && !program.isEmpty()) {
            int at = random.nextInt(program.length());
            char other = "kfboscwmla ;0123456789~".charAt(random.nextInt(23));
            program = random.nextBoolean() ? program.substring(0, at)
                    : program.substring(0, at) + other + program.substring(at + random.nextInt(2));
        }
        for (int i = 0; i < program.length(); i++) {
            call("append", program.charAt(i));
        }
        if (random.nextInt(20) == 0) {
            call("append", one(new String[] {"\u001f", "\u007f", "\u00e4"}).charAt(0));
        }
        call("run");
    }

    private String program() {
        String[] words = {"kettle", "fill", "burner", "order", "cancel", "serve", "wash", "steam", "cup", "litre",
            "attend", "minutes", "close"};
        StringBuilder text = new StringBuilder();
        for (int i = random.nextInt(6); i >= 0; i--) {
            int which = random.nextInt(words.length);
            text.append(words[which]);
            for (int argument : arguments(CHANGES[which])) {
                text.append(' ').append(Math.max(0, argument));
            }
            text.append(i > 0 ? ";" : "");
        }
        return text.length() <= 60 || random.nextInt(10) == 0 ? text.toString() : "serve";
    }

    private void call(String method, int... arguments) {
        if (calls.size() >= CALLS) {
            return;
        }
        String got = ofHouse(method, arguments);
        String due = ofPlain(method, arguments);
        String text = method + java.util.Arrays.toString(arguments);
        calls.add(text + " " + got);
        if (!got.contains("Exception")) {
            seen.add(method);
            ordered += method.equals("order") ? 1 : 0;
        }
        if (!got.equals(due)) {
            isRight = false;
            Expect.same(calls + ": " + text, got, due);
        }
    }

    private String ofHouse(String method, int... arguments) {
        Object[] boxed = new Object[arguments.length];
        for (int i = 0; i < arguments.length; i++) {
            boxed[i] = arguments[i];
        }
        if (method.equals("append")) {
            boxed[0] = (char) arguments[0];
        } else if (method.equals("setAttendant")) {
            boxed[0] = arguments[0] != 0;
        }
        try {
            return String.valueOf(methods.get(method).invoke(house, boxed));
        } catch (InvocationTargetException e) {
            return e.getCause().getClass().getName();
        } catch (IllegalAccessException e) {
            throw new AssertionError(e);
        }
    }

    private String ofPlain(String method, int... arguments) {
        try {
            return String.valueOf(plain.answer(method, arguments));
        } catch (RuntimeException e) {
            return e.getClass().getName();
        }
    }

    private int orderNumber() {
        return between(Math.max(-1, ordered - 12), ordered);
    }

    private int strangeOr(int usual) {
        return random.nextInt(40) == 0 ? STRANGE[random.nextInt(STRANGE.length)] : usual;
    }

    private int between(int least, int most) {
        return least + random.nextInt(most - least + 1);
    }

    private String one(String[] texts) {
        return texts[random.nextInt(texts.length)];
    }
}
