import java.lang.reflect.InvocationTargetException;
import java.lang.reflect.Method;
import java.lang.reflect.Modifier;
import java.util.ArrayList;
import java.util.Arrays;
import java.util.List;
import java.util.NoSuchElementException;
import java.util.function.Supplier;

/** The boundaries that "What it is", "The public face" and "Terms" name, but for commands, undo and errors. */
public final class TermsEdgeTest {
    private static final int[] NUMBERS = {Integer.MIN_VALUE, Integer.MIN_VALUE + 1, -1, 0, 1, 2, 3, 4, 9, 10, 13, 14,
        15, 60, 100, 120, Integer.MAX_VALUE};

    public static void main(String[] args) {
        Expect.allOf(TermsEdgeTest.class);
    }

    /** What it is: An object is used for at most 512 calls after it has been made; what later calls answer is free. */
    private static void testTheLastOf512Calls() {
        TeaHouse changed = new TeaHouse();
        Expect.same("call 1", changed.setCupPrice(2), 1.5);
        for (int call = 2; call <= 510; call++) {
            Expect.same("call " + call, changed.setCupPrice(1 + call % 80), (1 + (call - 1) % 80) / 8.0);
        }
        Expect.same("call 511 undoes", changed.undo(), 7);
        Expect.same("call 512 asks", changed.cupPrice(), (1 + 509 % 80) / 8.0);
        TeaHouse ordered = new TeaHouse();
        for (int order = 0; order < 255; order++) {
            Expect.same("order " + order, ordered.order(0, 1, 60, 1), order);
            Expect.same("cancel " + order, ordered.cancel(order), 0);
        }
        Expect.same("call 511 orders", ordered.order(0, 1, 60, 1), 255);
        Expect.same("call 512 finds the order", ordered.positionOf(255), 0);
        TeaHouse refused = new TeaHouse();
        for (int call = 1; call <= 511; call++) {
            Expect.thrown("call " + call, IllegalArgumentException.class, refused::run);
        }
        Expect.same("call 512 tells the error", refused.errorPosition(), 0);
    }

    // The public face: each method throws what it declares and nothing else, whatever its arguments are.
    private static void testOnlyDeclaredExceptions() {
        List<Supplier<TeaHouse>> houses = List.of(TeaHouse::new, Houses::busy, Houses::full);
        for (Method method : TeaHouse.class.getDeclaredMethods()) {
            if (Modifier.isPublic(method.getModifiers())) {
                for (Object[] arguments : argumentsFor(method.getParameterTypes())) {
                    for (Supplier<TeaHouse> made : houses) {
                        expectDeclared(method, made.get(), arguments);
                    }
                }
            }
        }
    }

    private static List<Object[]> argumentsFor(Class<?>[] types) {
        List<Object[]> all = new ArrayList<>();
        if (types.length > 2) {
            Object[] allowed = {0, 1, 60, 1};
            for (int number : NUMBERS) {
                for (int i = 0; i < types.length; i++) {
                    Object[] arguments = allowed.clone();
                    arguments[i] = number;
                    all.add(arguments);
                }
            }
            return all;
        }
        all.add(new Object[0]);
        for (Class<?> type : types) {
            List<Object[]> longer = new ArrayList<>();
            for (Object[] arguments : all) {
                for (Object value : valuesOf(type)) {
                    Object[] extended = Arrays.copyOf(arguments, arguments.length + 1);
                    extended[arguments.length] = value;
                    longer.add(extended);
                }
            }
            all = longer;
        }
        return all;
    }

    private static List<Object> valuesOf(Class<?> type) {
        List<Object> values = new ArrayList<>();
        if (type == boolean.class) {
            values.add(false);
            values.add(true);
        } else if (type == char.class) {
            for (int character : new int[] {0, 31, 32, 126, 127, 255, 256, 0xffff}) {
                values.add((char) character);
            }
        } else {
            for (int number : NUMBERS) {
                values.add(number);
            }
        }
        return values;
    }

    private static void expectDeclared(Method method, TeaHouse house, Object[] arguments) {
        try {
            method.invoke(house, arguments);
        } catch (InvocationTargetException e) {
            boolean isDeclared = Arrays.asList(method.getExceptionTypes()).contains(e.getCause().getClass());
            Expect.yes(method.getName() + Arrays.toString(arguments) + " declares " + e.getCause(), isDeclared);
        } catch (IllegalAccessException e) {
            throw new AssertionError(e);
        }
    }

    /**
     * Terms: Volumes are multiples of 0.125 litres, temperatures are multiples of 0.5 degrees, and amounts of money
     * are multiples of 0.125; all of them are exact in float arithmetic.
     */
    private static void testTheSmallestStepsAreExact() {
        TeaHouse house = Houses.hot(31);
        Expect.same("an eighth below 4 litres", house.volume(0), 3.875);
        Expect.same("an eighth of steam", house.steam(), 0.125);
        house.pass(1);
        Expect.same("half a degree below 100", house.temperature(0), 99.5);
        house.setCupPrice(1);
        house.order(0, 1, 60, 1);
        house.serveNext();
        Expect.same("an eighth of money", house.income(), 0.125);
        TeaHouse rich = Houses.after("kettle 16;kettle 16;kettle 16;kettle 16;cup 1;litre 80");
        for (int kettle = 0; kettle < 4; kettle++) {
            rich.setBurner(kettle, 5);
        }
        for (int round = 0; round < 30; round++) {
            for (int kettle = 0; kettle < 4; kettle++) {
                rich.fill(kettle, 16);
            }
            rich.pass(30);
            rich.sellSteam(80);
            rich.sellSteam(48);
        }
        Expect.same("much money", rich.totalIncome(), 38400.0);
        rich.fill(0, 1);
        rich.pass(11);
        rich.order(0, 1, 60, 1);
        rich.serveNext();
        Expect.same("much money and an eighth", rich.totalIncome(), 38400.125);
        Expect.same("much money and an eighth by sales", rich.totalIncomeBySales(), 38400.125);
        Expect.same("much water and a cup", rich.filledTotal(), 480.25);
        rich.fill(1, 1);
        rich.setBurner(1, 1);
        rich.pass(80);
        Expect.same("much steam and an eighth", rich.boiledTotal(), 480.125);
        Expect.yes("balanced", rich.isBalanced());
    }

    /** Terms: All steam that is sold was boiled before. */
    private static void testNoMoreSteamIsSoldThanBoiled() {
        for (int boiled : new int[] {1, 2, 79}) {
            TeaHouse house = Houses.withSteam(boiled);
            Expect.thrown("one more than " + boiled, IllegalStateException.class, () -> house.sellSteam(boiled + 1));
            Expect.same("all of " + boiled, house.sellSteam(boiled), boiled * 0.25);
            Expect.same("none of " + boiled + " is left", house.steam(), 0.0);
            Expect.same(boiled + " were boiled", house.boiledTotal(), boiled * 0.125);
            Expect.thrown("none is left to sell", IllegalStateException.class, () -> house.sellSteam(1));
        }
    }

    /** Terms: Integer divisions round towards zero. */
    private static void testTheGreatestRestIsDropped() {
        TeaHouse house = Houses.hot(1);
        house.pass(2);
        // 158 half degrees times 1 eighth, divided by 3 eighths: 52 and the rest 2
        Expect.same("158 / 3", house.fill(0, 1), 46.0);
    }

    /** Terms: At most 4 kettles exist, numbered from 0 in the order in which they were added. */
    private static void testFourKettlesFrom0() {
        TeaHouse house = new TeaHouse();
        for (int kettle = 0; kettle < 4; kettle++) {
            Expect.same("kettle " + kettle, house.addKettle(16 - kettle), kettle);
        }
        for (int kettle = 0; kettle < 4; kettle++) {
            Expect.same("capacity of kettle " + kettle, house.capacity(kettle), (16 - kettle) / 4.0);
        }
        Expect.thrown("a fifth kettle", IllegalStateException.class, () -> house.addKettle(16));
        Expect.same("still four", house.kettleCount(), 4);
        Expect.thrown("kettle 4", IndexOutOfBoundsException.class, () -> house.capacity(4));
    }

    /**
     * Terms: A kettle has a capacity from 0.5 to 4 litres, a volume of water, initially 0, a temperature from 20 to
     * 100 degrees, initially 20, and a burner with a level from 0 to 5, initially 0.
     */
    private static void testTheLeastAndTheMostOfAKettle() {
        TeaHouse house = new TeaHouse();
        house.addKettle(2);
        house.addKettle(16);
        for (int kettle = 0; kettle < 2; kettle++) {
            Expect.same("capacity", house.capacity(kettle), kettle == 0 ? 0.5 : 4.0);
            Expect.same("initial volume", house.volume(kettle), 0.0);
            Expect.same("initial temperature", house.temperature(kettle), 20.0);
            Expect.same("initial level", house.burner(kettle), 0);
        }
        house.fill(0, 2);
        house.fill(1, 16);
        house.pass(120);
        Expect.same("the least temperature", house.temperature(1), 20.0);
        house.setBurner(1, 5);
        house.pass(13);
        Expect.same("the greatest level", house.burner(1), 5);
        Expect.same("the greatest temperature", house.temperature(1), 100.0);
        Expect.same("full to the brim", house.volume(0), 0.5);
    }

    /**
     * Terms: When water is added, let v be the volume before, w the added volume, and e the temperature minus 20,
     * counted in half degrees.
     */
    private static void testFillWhenNoWaterOrNoHeatIsLeft() {
        TeaHouse poured = Houses.hot(2);
        poured.order(0, 1, 100, 1);
        poured.serveNext();
        Expect.same("v is 0 after pouring", poured.fill(0, 1), 20.0);
        TeaHouse boiledAway = Houses.withSteam(32);
        Expect.same("hot without water", boiledAway.temperature(0), 100.0);
        Expect.same("v is 0 after boiling", boiledAway.fill(0, 16), 20.0);
        TeaHouse cold = Houses.after("kettle 16;fill 0 1");
        Expect.same("e is 0", cold.fill(0, 15), 20.0);
        TeaHouse lukewarm = Houses.after("kettle 16;fill 0 15;burner 0 1;minutes 1;burner 0 0");
        lukewarm.pass(1);
        Expect.same("half a degree above 20", lukewarm.temperature(0), 20.5);
        Expect.same("e is 1", lukewarm.fill(0, 1), 20.0);
    }

    /**
     * Terms: The new temperature is 20 degrees plus e * v / (v + w) half degrees, where v and w are counted in
     * eighths of a litre, and the division is an integer division.
     */
    private static void testFillAtTheEndsOfTheVolumes() {
        Expect.same("160 * 30 / 32", Houses.hot(30).fill(0, 1), 95.0);
        Expect.same("160 * 1 / 31", Houses.hot(1).fill(0, 15), 22.5);
        Expect.same("160 * 1 / 3", Houses.hot(1).fill(0, 1), 46.5);
        Expect.same("160 * 2 / 32", Houses.hot(2).fill(0, 15), 25.0);
        TeaHouse house = Houses.hot(29);
        house.pass(1);
        Expect.same("159 * 29 / 31", house.fill(0, 1), 94.0);
    }

    /**
     * Terms: An order has a table from 0 to 9, 1 to 6 cups, a minimum temperature from 60 to 100 degrees, and a
     * priority from 1 to 9.
     */
    private static void testTheLeastAndTheMostOfAnOrder() {
        TeaHouse house = new TeaHouse();
        house.order(0, 1, 60, 1);
        house.order(9, 6, 100, 9);
        Expect.same("the least", Words.order(house, 0), "#0 t0 1x60 p1");
        Expect.same("the most", Words.order(house, 1), "#1 t9 6x100 p9");
    }

    /** Terms: At most 10 orders wait. */
    private static void testTenOrdersWait() {
        TeaHouse house = Houses.withOrders(9);
        Expect.same("the tenth", house.order(0, 1, 60, 1), 9);
        Expect.thrown("an eleventh", IllegalStateException.class, () -> house.order(0, 1, 60, 1));
        Expect.same("ten wait", house.waitingCount(), 10);
        house.cancel(4);
        Expect.same("one for the cancelled", house.order(0, 1, 60, 1), 10);
        Expect.thrown("twelve in all", IllegalStateException.class, () -> house.order(0, 1, 60, 1));
        TeaHouse served = Houses.hot(12);
        for (int order = 0; order < 10; order++) {
            served.order(0, 1, 60, 1);
        }
        served.serveNext();
        Expect.same("one for the served", served.order(0, 1, 60, 1), 10);
    }

    /**
     * Terms: A new order gets the next free number: the first order has number 0, and each further order has the
     * number of the order accepted before it plus 1.
     */
    private static void testOrderNumbers() {
        TeaHouse house = Houses.hot(12);
        Expect.thrown("a refused order", IllegalArgumentException.class, () -> house.order(0, 0, 60, 1));
        Expect.same("the first has 0", house.order(0, 1, 60, 1), 0);
        house.cancel(0);
        Expect.same("1 when none waits", house.order(0, 1, 60, 1), 1);
        house.serveNext();
        Expect.same("2 when none waits", house.order(0, 1, 60, 1), 2);
        for (int number = 3; number <= 11; number++) {
            Expect.same("the next", house.order(0, 1, 60, 9), number);
        }
        Expect.thrown("too many", IllegalStateException.class, () -> house.order(0, 1, 60, 1));
        house.cancel(11);
        Expect.same("refused orders take no number", house.order(0, 1, 60, 1), 12);
        Houses.runInVain(house, "cancel 12;order 0 1 60 1;serve;order 0 7 60 1");
        house.cancel(12);
        Expect.same("a failed run takes no number", house.order(0, 1, 60, 1), 13);
    }

    /** Terms: Undo and restore also take back the next free number. */
    private static void testNumbersAreTakenBack() {
        TeaHouse house = new TeaHouse();
        house.save();
        house.order(0, 1, 60, 1);
        house.order(0, 1, 60, 1);
        house.undo();
        Expect.same("undo takes back 1", house.order(0, 1, 60, 2), 1);
        house.cancel(0);
        house.undo();
        Expect.same("undoing a cancel takes no number back", house.order(0, 1, 60, 1), 2);
        house.undo();
        house.undo();
        house.undo();
        Expect.same("undo takes back the first number", house.order(0, 1, 60, 1), 0);
        house.restore();
        Expect.same("restore takes back all", house.order(0, 1, 60, 1), 0);
        house.save();
        Words.run(house, "order 0 1 60 1;order 0 1 60 1;cancel 1;cancel 2");
        house.restore();
        Expect.same("restore takes back those of a run", house.order(0, 1, 60, 1), 1);
    }

    /** Terms: The waiting orders are served in this order: higher priority first, then lower number first. */
    private static void testEndsOfTheQueue() {
        TeaHouse house = Houses.hot(31);
        int[] priorities = {1, 9, 1, 9, 8, 2, 9, 1, 5, 5};
        for (int priority : priorities) {
            house.order(0, 1, 60, priority);
        }
        int[] due = {1, 3, 6, 4, 8, 9, 5, 0, 2, 7};
        for (int order : due) {
            Expect.same("served", house.serveNext(), order);
        }
        TeaHouse equals = Houses.hot(31);
        for (int order = 0; order < 10; order++) {
            equals.order(0, 1, 60, 9);
        }
        for (int order = 0; order < 10; order++) {
            Expect.same("of equal priorities", equals.serveNext(), order);
        }
    }

    /** Terms: A cup holds 0.25 litres. */
    private static void testOneCupAndSixCups() {
        for (int cups : new int[] {1, 6}) {
            TeaHouse house = Houses.hot(2 * cups);
            house.order(0, cups, 60, 1);
            house.serveNext();
            Expect.same(cups + " cups empty the kettle", house.volume(0), 0.0);
            Expect.same(cups + " cups were poured", house.pouredTotal(), cups * 0.25);
        }
    }

    /**
     * Terms: A kettle suits an order if its volume is enough for all its cups and its temperature is at least the
     * minimum temperature.
     */
    private static void testBarelySuitable() {
        for (int cups = 1; cups <= 6; cups++) {
            int wanted = cups;
            TeaHouse enough = Houses.hot(2 * cups);
            enough.order(0, cups, 100, 1);
            Expect.same("just enough for " + cups, enough.kettleFor(0), 0);
            TeaHouse less = Houses.hot(2 * cups - 1);
            less.order(0, cups, 60, 1);
            Expect.thrown("an eighth less than " + wanted + " cups", NoSuchElementException.class,
                    () -> less.kettleFor(0));
        }
        TeaHouse house = Houses.after("kettle 16;fill 0 16;burner 0 1;minutes 40;burner 0 0");
        house.order(0, 1, 60, 1);
        house.order(0, 1, 61, 1);
        Expect.same("60 degrees for 60", house.kettleFor(0), 0);
        Expect.thrown("60 degrees for 61", NoSuchElementException.class, () -> house.kettleFor(1));
        house.pass(1);
        Expect.thrown("59.5 degrees for 60", NoSuchElementException.class, () -> house.kettleFor(0));
        TeaHouse hottest = Houses.hot(4);
        hottest.order(0, 1, 100, 1);
        Expect.same("100 degrees for 100", hottest.kettleFor(0), 0);
        hottest.pass(1);
        Expect.thrown("99.5 degrees for 100", NoSuchElementException.class, () -> hottest.kettleFor(0));
    }

    /**
     * Terms: An order is poured from the suitable kettle with the highest temperature; of several such kettles it is
     * the one with the lowest number.
     */
    private static void testPouredFromTheHottest() {
        TeaHouse house = Houses.withKettles(4);
        for (int kettle = 0; kettle < 4; kettle++) {
            house.fill(kettle, 4);
            house.setBurner(kettle, 1);
        }
        house.pass(50);
        house.order(0, 1, 60, 1);
        Expect.same("of four equal ones", house.kettleFor(0), 0);
        house.setBurner(0, 0);
        house.setBurner(1, 0);
        house.pass(1);
        Expect.same("of the two hottest", house.kettleFor(0), 2);
        house.setBurner(3, 2);
        house.pass(1);
        Expect.same("the last is the hottest", house.kettleFor(0), 3);
        Expect.same("serve", house.serveNext(), 0);
        Expect.same("poured from the last", house.volume(3), 0.75);
        house.order(0, 4, 60, 1);
        Expect.same("the hottest has too little", house.kettleFor(1), 2);
        house.serveNext();
        Expect.same("poured from the second hottest", house.volume(2), 0.0);
    }

    /** Terms: Pouring does not change the temperature. */
    private static void testPouringTheLastWater() {
        TeaHouse house = Houses.hot(2);
        house.order(0, 1, 60, 1);
        house.serveNext();
        Expect.same("no water", house.volume(0), 0.0);
        Expect.same("still hot", house.temperature(0), 100.0);
    }

    /** Terms: There are 20 cups, which are clean at first. */
    private static void testTwentyCups() {
        Expect.same("at first", new TeaHouse().cleanCups(), 20);
        Expect.thrown("none to wash", IllegalStateException.class, () -> new TeaHouse().wash(1));
        TeaHouse house = Houses.withUsedCups(20);
        Expect.same("all twenty are used", house.cleanCups(), 0);
        Expect.same("all twenty are washed", house.wash(20), 20);
    }

    /** Terms: Serving an order uses as many clean cups as the order has. */
    private static void testTheLastCleanCups() {
        for (int cups = 1; cups <= 6; cups++) {
            TeaHouse house = Houses.withUsedCups(20 - cups);
            house.order(0, cups, 60, 1);
            Expect.yes("enough clean cups for " + cups, house.canServe());
            house.serveNext();
            Expect.same("the last " + cups + " are used", house.cleanCups(), 0);
            TeaHouse fewer = Houses.withUsedCups(21 - cups);
            fewer.order(0, cups, 60, 1);
            Expect.no("one clean cup too few for " + cups, fewer.canServe());
            Expect.thrown("one clean cup too few for " + cups, IllegalStateException.class, fewer::serveNext);
        }
    }

    /** Terms: Used cups are clean again after washing. */
    private static void testWashedCupsAreUsedAgain() {
        TeaHouse house = Houses.withUsedCups(20);
        int order = house.order(0, 1, 60, 1);
        Expect.thrown("no clean cup", IllegalStateException.class, house::serveNext);
        house.wash(1);
        Expect.same("the washed cup", house.serveNext(), order);
        Expect.same("no clean cup again", house.cleanCups(), 0);
    }
}
