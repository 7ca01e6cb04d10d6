import java.util.ArrayDeque;
import java.util.ArrayList;
import java.util.Comparator;
import java.util.Deque;
import java.util.List;
import java.util.NoSuchElementException;
import java.util.regex.Matcher;
import java.util.regex.Pattern;

/** The document once more, as plainly as the Java library allows, for RandomRunsTest to compare with. */
final class PlainHouse {
    private static final String NUMBER = "[0-9]{1,3}";
    private static final String COMMAND = "(?:kettle N|fill D N|burner D D|order D D N D|cancel N|serve|wash N"
            + "|steam N|minutes N|cup N|litre N|attend D|close)";
    private static final Pattern PROGRAM = Pattern.compile(
            "(?:C(?:;C)*)".replace("C", COMMAND.replace("N", NUMBER).replace("D", "[0-9]")));

    private record Kettle(float capacity, float volume, float temperature, int level, boolean boiled) {
        Kettle filled(float added) {
            int v = (int) (volume * 8);
            int w = (int) (added * 8);
            int e = (int) ((temperature - 20) * 2);
            return new Kettle(capacity, volume + added, 20 + (e * v / (v + w)) / 2f, level, boiled);
        }

        Kettle poured(float taken) {
            return new Kettle(capacity, volume - taken, temperature, level, boiled);
        }

        Kettle turned(int newLevel) {
            return new Kettle(capacity, volume, temperature, newLevel, boiled);
        }

        Kettle minuteLater() {
            float warmer = Math.min(100, Math.max(20, temperature + 1.5f * level - 0.5f));
            float after = volume == 0 ? 20 : warmer;
            boolean boils = volume > 0 && after == 100 && level > 0;
            float left = boils ? Math.max(0, volume - 0.125f * level) : volume;
            return new Kettle(capacity, left, after, level, boils);
        }

        boolean suits(Order order) {
            return volume >= order.cups * 0.25f && temperature >= order.minimum;
        }
    }

    private record Order(int number, int table, int cups, int minimum, int priority) {
    }

    private static final class State {
        List<Kettle> kettles = new ArrayList<>();
        List<Order> orders = new ArrayList<>();
        List<Float> nights = new ArrayList<>();
        int nextNumber = 0;
        int usedCups = 0;
        float steam = 0;
        float boiled = 0;
        float poured = 0;
        float filled = 0;
        float cupPrice = 1.5f;
        float steamPrice = 2;
        float present = 0;
        float fromCups = 0;
        float fromSteam = 0;
        boolean attendant = true;
        int served = 0;
        int heard = 0;
        int lost = 0;

        State copy() {
            State other = new State();
            other.kettles = new ArrayList<>(kettles);
            other.orders = new ArrayList<>(orders);
            other.nights = new ArrayList<>(nights);
            other.nextNumber = nextNumber;
            other.usedCups = usedCups;
            other.steam = steam;
            other.boiled = boiled;
            other.poured = poured;
            other.filled = filled;
            other.cupPrice = cupPrice;
            other.steamPrice = steamPrice;
            other.present = present;
            other.fromCups = fromCups;
            other.fromSteam = fromSteam;
            other.attendant = attendant;
            other.served = served;
            other.heard = heard;
            other.lost = lost;
            return other;
        }
    }

    private State state = new State();
    private State saved = null;
    private final Deque<State> past = new ArrayDeque<>();
    private String buffer = "";
    private String line = "";
    private int errorPosition = -1;
    private int failedCommand = -1;

    /** The answer to a call, as text; an exception of the document reaches the caller. */
    Object answer(String method, int... a) {
        switch (method) {
            case "addKettle": case "fill": case "setBurner": case "order": case "cancel": case "serveNext":
            case "wash": case "sellSteam": case "setCupPrice": case "setSteamPrice": case "setAttendant":
            case "pass": case "closeNight":
                State before = state.copy();
                Object result = change(method, a);
                remember(before);
                return result;
            case "kettleCount": return state.kettles.size();
            case "capacity": return kettle(a[0]).capacity;
            case "volume": return kettle(a[0]).volume;
            case "temperature": return kettle(a[0]).temperature;
            case "temperatureBits": return Float.floatToIntBits(kettle(a[0]).temperature);
            case "burner": return kettle(a[0]).level;
            case "isBoiling": return kettle(a[0]).boiled;
            case "minutesUntilBoiling": case "minutesUntilBoilingByMinutes": return minutesUntilBoiling(kettle(a[0]));
            case "kettleByTemperature": return kettleByTemperature(a[0]);
            case "waitingCount": return state.orders.size();
            case "orderAt": return element(queue(), a[0]).number;
            case "positionOf": return queue().indexOf(waiting(a[0]));
            case "cupsOf": return waiting(a[0]).cups;
            case "priceOf": return waiting(a[0]).cups * state.cupPrice;
            case "kettleFor": return kettleFor(state.kettles, waiting(a[0]));
            case "minutesUntilSuitable": return minutesUntilSuitable(waiting(a[0]));
            case "canServe": return canServe();
            default: return otherAnswer(method, a);
        }
    }

    private Object otherAnswer(String method, int... a) {
        switch (method) {
            case "cleanCups": return 20 - state.usedCups;
            case "steam": return state.steam;
            case "boiledTotal": return state.boiled;
            case "pouredTotal": return state.poured;
            case "filledTotal": return state.filled;
            case "cupPrice": return state.cupPrice;
            case "steamPrice": return state.steamPrice;
            case "income": return state.present;
            case "nightCount": return state.nights.size();
            case "nightIncome":
                check(a[0] >= 0 && a[0] < state.nights.size(), new IndexOutOfBoundsException());
                return state.nights.get(a[0]);
            case "nightByIncome": return nightByIncome(a[0]);
            case "greatestIncome": case "greatestIncomeBySums": return greatestIncome(a[0]);
            case "totalIncome": case "totalIncomeBySales": return state.fromCups + state.fromSteam;
            case "servedOrders": return state.served;
            case "whistlesHeard": return state.heard;
            case "whistlesLost": return state.lost;
            case "meanTemperature":
                check(!state.kettles.isEmpty(), new ArithmeticException());
                return state.kettles.stream().mapToDouble(k -> k.temperature).sum() / state.kettles.size();
            case "lostShare":
                check(state.heard + state.lost > 0, new ArithmeticException());
                return (float) state.lost / (state.heard + state.lost);
            case "isBalanced": return true;
            case "formatKettle": return format(kettleText(a[0]));
            case "formatOrder":
                Order o = waiting(a[0]);
                return format("#" + o.number + " t" + o.table + " " + o.cups + "x" + o.minimum + " p" + o.priority);
            case "formatLedger":
                return format(String.join(" ", state.nights.stream().map(n -> "" + (int) (n * 8)).toList()));
            case "lineChar":
                check(a[0] >= 0 && a[0] < line.length(), new IndexOutOfBoundsException());
                return line.charAt(a[0]);
            case "append": return append((char) a[0]);
            case "run": return run();
            case "errorPosition":
                check(errorPosition >= 0, new NoSuchElementException());
                return errorPosition;
            case "failedCommand":
                check(failedCommand >= 0, new NoSuchElementException());
                return failedCommand;
            case "undoableCount": return past.size();
            case "undo":
                check(!past.isEmpty(), new IllegalStateException());
                state = past.removeLast();
                return past.size();
            case "save":
                saved = state.copy();
                return saved.kettles.size();
            case "restore":
                check(saved != null, new IllegalStateException());
                state = saved.copy();
                past.clear();
                return state.kettles.size();
            default: throw new AssertionError(method);
        }
    }

    private Object change(String method, int... a) {
        switch (method) {
            case "addKettle":
                checkRange(a[0], 2, 16);
                check(state.kettles.size() < 4, new IllegalStateException());
                state.kettles.add(new Kettle(a[0] / 4f, 0, 20, 0, false));
                return state.kettles.size() - 1;
            case "fill": return fill(a[0], a[1]);
            case "setBurner":
                Kettle turned = kettle(a[0]);
                checkRange(a[1], 0, 5);
                state.kettles.set(a[0], turned.turned(a[1]));
                return turned.level;
            case "order":
                checkRange(a[0], 0, 9);
                checkRange(a[1], 1, 6);
                checkRange(a[2], 60, 100);
                checkRange(a[3], 1, 9);
                check(state.orders.size() < 10, new IllegalStateException());
                state.orders.add(new Order(state.nextNumber, a[0], a[1], a[2], a[3]));
                return state.nextNumber++;
            case "cancel":
                state.orders.remove(waiting(a[0]));
                return state.orders.size();
            case "serveNext": return serveNext();
            case "wash":
                checkRange(a[0], 1, 20);
                check(a[0] <= state.usedCups, new IllegalStateException());
                state.usedCups -= a[0];
                return 20 - state.usedCups;
            case "sellSteam": return sellSteam(a[0]);
            case "setCupPrice":
                checkRange(a[0], 1, 80);
                float cupBefore = state.cupPrice;
                state.cupPrice = a[0] / 8f;
                return cupBefore;
            case "setSteamPrice":
                checkRange(a[0], 1, 80);
                float steamBefore = state.steamPrice;
                state.steamPrice = a[0];
                return steamBefore;
            case "setAttendant":
                boolean attendantBefore = state.attendant;
                state.attendant = a[0] != 0;
                return attendantBefore;
            case "pass": return pass(a[0]);
            case "closeNight":
                check(state.nights.size() < 14, new IllegalStateException());
                float closed = state.present;
                state.nights.add(closed);
                state.present = 0;
                return closed;
            default: throw new AssertionError(method);
        }
    }

    private void remember(State before) {
        past.addLast(before);
        if (past.size() > 8) {
            past.removeFirst();
        }
    }

    private float fill(int number, int quarters) {
        Kettle kettle = kettle(number);
        checkRange(quarters, 1, 16);
        check(kettle.volume + quarters / 4f <= kettle.capacity, new IllegalStateException());
        state.kettles.set(number, kettle.filled(quarters / 4f));
        state.filled += quarters / 4f;
        return kettle(number).temperature;
    }

    private int serveNext() {
        check(canServe(), new IllegalStateException());
        Order order = queue().get(0);
        int number = kettleFor(state.kettles, order);
        state.kettles.set(number, state.kettles.get(number).poured(order.cups * 0.25f));
        state.poured += order.cups * 0.25f;
        state.usedCups += order.cups;
        state.present += order.cups * state.cupPrice;
        state.fromCups += order.cups * state.cupPrice;
        state.served++;
        state.orders.remove(order);
        return order.number;
    }

    private float sellSteam(int eighths) {
        checkRange(eighths, 1, 80);
        check(eighths / 8f <= state.steam, new IllegalStateException());
        float price = eighths / 8f * state.steamPrice;
        state.steam -= eighths / 8f;
        state.present += price;
        state.fromSteam += price;
        return price;
    }

    private int pass(int minutes) {
        checkRange(minutes, 1, 120);
        int whistles = 0;
        for (int minute = 0; minute < minutes; minute++) {
            List<Kettle> before = state.kettles;
            state.kettles = later(before);
            for (int k = 0; k < before.size(); k++) {
                float vapour = before.get(k).volume - state.kettles.get(k).volume;
                state.steam += vapour;
                state.boiled += vapour;
                whistles += state.kettles.get(k).boiled && !before.get(k).boiled ? 1 : 0;
            }
        }
        state.heard += state.attendant ? whistles : 0;
        state.lost += state.attendant ? 0 : whistles;
        return whistles;
    }

    private static List<Kettle> later(List<Kettle> kettles) {
        List<Kettle> later = new ArrayList<>();
        for (Kettle kettle : kettles) {
            later.add(kettle.minuteLater());
        }
        return later;
    }

    private int minutesUntilBoiling(Kettle kettle) {
        Kettle later = kettle;
        for (int minute = 1; minute <= 1000; minute++) {
            later = later.minuteLater();
            if (later.boiled) {
                return minute;
            }
        }
        throw new NoSuchElementException();
    }

    private int minutesUntilSuitable(Order order) {
        List<Kettle> later = state.kettles;
        for (int minute = 0; minute <= 120; minute++) {
            if (later.stream().anyMatch(k -> k.suits(order))) {
                return minute;
            }
            later = later(later);
        }
        throw new NoSuchElementException();
    }

    private int kettleByTemperature(int rank) {
        List<Integer> numbers = upTo(state.kettles.size());
        Comparator<Integer> byTemperature = Comparator.comparing(k -> -state.kettles.get(k).temperature);
        numbers.sort(byTemperature.thenComparing(k -> -state.kettles.get(k).volume).thenComparing(k -> k));
        return element(numbers, rank);
    }

    private int nightByIncome(int rank) {
        List<Integer> numbers = upTo(state.nights.size());
        Comparator<Integer> byIncome = Comparator.comparing(n -> -state.nights.get(n));
        numbers.sort(byIncome.thenComparing(n -> n));
        return element(numbers, rank);
    }

    private float greatestIncome(int nights) {
        checkRange(nights, 1, 14);
        check(nights <= state.nights.size(), new NoSuchElementException());
        float greatest = 0;
        for (int first = 0; first + nights <= state.nights.size(); first++) {
            float sum = 0;
            for (float income : state.nights.subList(first, first + nights)) {
                sum += income;
            }
            greatest = Math.max(greatest, sum);
        }
        return greatest;
    }

    private boolean canServe() {
        if (state.orders.isEmpty()) {
            return false;
        }
        Order order = queue().get(0);
        return state.kettles.stream().anyMatch(k -> k.suits(order)) && order.cups <= 20 - state.usedCups;
    }

    private static int kettleFor(List<Kettle> kettles, Order order) {
        int best = -1;
        for (int k = kettles.size() - 1; k >= 0; k--) {
            boolean isBest = best < 0 || kettles.get(k).temperature >= kettles.get(best).temperature;
            best = kettles.get(k).suits(order) && isBest ? k : best;
        }
        check(best >= 0, new NoSuchElementException());
        return best;
    }

    private String kettleText(int number) {
        Kettle k = kettle(number);
        return "K" + number + " " + (int) (k.volume * 8) + "/" + (int) (k.capacity * 8) + " "
                + (int) (k.temperature * 2) + "h" + (k.level > 0 ? " b" + k.level : "") + (k.boiled ? "!" : "");
    }

    private int format(String text) {
        line = text;
        return text.length();
    }

    private int append(char character) {
        check(character >= 32 && character <= 126, new IllegalArgumentException());
        check(buffer.length() < 60, new IllegalStateException());
        buffer += character;
        return buffer.length();
    }

    private int run() {
        String program = buffer;
        buffer = "";
        if (!PROGRAM.matcher(program).matches()) {
            errorPosition = firstImpossible(program);
            throw new IllegalArgumentException();
        }
        String[] commands = program.split(";");
        State before = state;
        state = before.copy();
        for (int i = 0; i < commands.length; i++) {
            try {
                execute(commands[i]);
            } catch (RuntimeException e) {
                state = before;
                failedCommand = i;
                throw new IllegalStateException();
            }
        }
        remember(before);
        return commands.length;
    }

    /** A text begins some program if the pattern matches it, or if only its end keeps the pattern from matching. */
    private static int firstImpossible(String program) {
        for (int length = 1; length <= program.length(); length++) {
            Matcher matcher = PROGRAM.matcher(program.substring(0, length));
            if (!matcher.matches() && !matcher.hitEnd()) {
                return length - 1;
            }
        }
        return program.length();
    }

    private void execute(String command) {
        String[] words = command.split(" ");
        int[] arguments = new int[words.length - 1];
        for (int i = 0; i < arguments.length; i++) {
            arguments[i] = Integer.parseInt(words[i + 1]);
        }
        String[] pairs = {"kettle", "addKettle", "fill", "fill", "burner", "setBurner", "order", "order",
            "cancel", "cancel", "serve", "serveNext", "wash", "wash", "steam", "sellSteam", "minutes", "pass",
            "cup", "setCupPrice", "litre", "setSteamPrice", "attend", "setAttendant", "close", "closeNight"};
        for (int i = 0; i < pairs.length; i += 2) {
            if (pairs[i].equals(words[0])) {
                change(pairs[i + 1], arguments);
            }
        }
    }

    private List<Order> queue() {
        List<Order> sorted = new ArrayList<>(state.orders);
        sorted.sort(Comparator.comparingInt((Order o) -> -o.priority).thenComparingInt(o -> o.number));
        return sorted;
    }

    private Order waiting(int number) {
        for (Order order : state.orders) {
            if (order.number == number) {
                return order;
            }
        }
        throw new NoSuchElementException();
    }

    private Kettle kettle(int number) {
        check(number >= 0 && number < state.kettles.size(), new IndexOutOfBoundsException());
        return state.kettles.get(number);
    }

    private static List<Integer> upTo(int count) {
        List<Integer> numbers = new ArrayList<>();
        for (int i = 0; i < count; i++) {
            numbers.add(i);
        }
        return numbers;
    }

    private static <T> T element(List<T> list, int index) {
        check(index >= 0 && index < list.size(), new NoSuchElementException());
        return list.get(index);
    }

    private static void checkRange(int value, int least, int most) {
        check(value >= least && value <= most, new IllegalArgumentException());
    }

    private static void check(boolean holds, RuntimeException otherwise) {
        if (!holds) {
            throw otherwise;
        }
    }
}
