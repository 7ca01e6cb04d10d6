import java.util.NoSuchElementException;
import java.util.function.Supplier;

/** The boundaries of promises 15 to 24 and 51: questions about kettles. */
public final class KettleEdgeTest {
    private static final Class<NoSuchElementException> NO_ELEMENT = NoSuchElementException.class;

    public static void main(String[] args) {
        Expect.allOf(KettleEdgeTest.class);
    }

    /** Four kettles of 1, 2, 3 and 4 litres; the first holds a little, the last is full and boils. */
    private static TeaHouse endsInUse() {
        TeaHouse house = Houses.withKettles(4);
        house.fill(3, 16);
        house.setBurner(3, 5);
        house.pass(11);
        house.fill(0, 1);
        house.setBurner(0, 1);
        house.pass(1);
        return house;
    }

    /** Promise 15: Returns the number of kettles. */
    private static void testCountFrom0To4() {
        for (int count = 0; count <= 4; count++) {
            Expect.same("kettleCount", Houses.withKettles(count).kettleCount(), count);
        }
        TeaHouse house = Houses.withKettles(4);
        Expect.thrown("a fifth", IllegalStateException.class, () -> house.addKettle(4));
        Expect.same("kettleCount after a refused fifth", house.kettleCount(), 4);
        house.undo();
        Expect.same("kettleCount after undo", house.kettleCount(), 3);
    }

    /** Promise 16: `kettle`: the number of the kettle */
    private static void testCapacityOfTheFirstAndTheLast() {
        Expect.same("the first", endsInUse().capacity(0), 1.0);
        Expect.same("the last", endsInUse().capacity(3), 4.0);
    }

    /** Promise 16: Throws `IndexOutOfBoundsException` if there is no such kettle */
    private static void testCapacityOfNoKettle() {
        Edges.expectNoSuchKettle("capacity", TeaHouse::capacity);
    }

    /** Promise 17: `kettle`: the number of the kettle */
    private static void testVolumeOfTheFirstAndTheLast() {
        Expect.same("the first", endsInUse().volume(0), 0.25);
        Expect.same("the last", endsInUse().volume(3), 3.375);
        Expect.same("an empty one", endsInUse().volume(1), 0.0);
        Expect.same("the fullest", Houses.after("kettle 16;fill 0 16").volume(0), 4.0);
    }

    /** Promise 17: Throws `IndexOutOfBoundsException` if there is no such kettle */
    private static void testVolumeOfNoKettle() {
        Edges.expectNoSuchKettle("volume", TeaHouse::volume);
    }

    /** Promise 18: `kettle`: the number of the kettle */
    private static void testTemperatureOfTheFirstAndTheLast() {
        Expect.same("the first", endsInUse().temperature(0), 21.0);
        Expect.same("the last", endsInUse().temperature(3), 100.0);
        Expect.same("a cold one", endsInUse().temperature(1), 20.0);
    }

    /** Promise 18: Throws `IndexOutOfBoundsException` if there is no such kettle */
    private static void testTemperatureOfNoKettle() {
        Edges.expectNoSuchKettle("temperature", TeaHouse::temperature);
    }

    /**
     * Promise 19: Returns the temperature of a kettle as the bits of its float value, as Float.floatToIntBits returns
     * them.
     */
    private static void testBitsAtTheEnds() {
        TeaHouse house = endsInUse();
        Expect.same("20 degrees", house.temperatureBits(1), Float.floatToIntBits(20.0f));
        Expect.same("100 degrees", house.temperatureBits(3), Float.floatToIntBits(100.0f));
        house.setBurner(0, 0);
        house.setBurner(3, 0);
        house.pass(1);
        Expect.same("20.5 degrees", house.temperatureBits(0), Float.floatToIntBits(20.5f));
        Expect.same("99.5 degrees", house.temperatureBits(3), Float.floatToIntBits(99.5f));
        // At 32 and 64 degrees the exponent of the float changes.
        TeaHouse cooling = Houses.hot(31);
        cooling.pass(71);
        expectBits(cooling, 64.5f);
        expectBits(cooling, 64.0f);
        expectBits(cooling, 63.5f);
        cooling.pass(61);
        expectBits(cooling, 32.5f);
        expectBits(cooling, 32.0f);
        expectBits(cooling, 31.5f);
    }

    private static void expectBits(TeaHouse house, float temperature) {
        Expect.same("temperature", house.temperature(0), temperature);
        Expect.same(temperature + " degrees", house.temperatureBits(0), Float.floatToIntBits(temperature));
        house.pass(1);
    }

    /** Promise 19: `kettle`: the number of the kettle */
    private static void testBitsOfTheFirstAndTheLast() {
        Expect.same("the first", endsInUse().temperatureBits(0), Float.floatToIntBits(21.0f));
        Expect.same("the last", endsInUse().temperatureBits(3), Float.floatToIntBits(100.0f));
    }

    /** Promise 19: Throws `IndexOutOfBoundsException` if there is no such kettle */
    private static void testBitsOfNoKettle() {
        Edges.expectNoSuchKettle("temperatureBits", TeaHouse::temperatureBits);
    }

    /** Promise 20: `kettle`: the number of the kettle */
    private static void testBurnerOfTheFirstAndTheLast() {
        Expect.same("the first", endsInUse().burner(0), 1);
        Expect.same("the last, at the greatest level", endsInUse().burner(3), 5);
        Expect.same("one that was never set", endsInUse().burner(1), 0);
    }

    /** Promise 20: Throws `IndexOutOfBoundsException` if there is no such kettle */
    private static void testBurnerOfNoKettle() {
        Edges.expectNoSuchKettle("burner", TeaHouse::burner);
    }

    /** Promise 21: Returns whether a kettle boiled in the last minute that passed. */
    private static void testBoiledInTheLastMinute() {
        TeaHouse house = Houses.after("kettle 16");
        Expect.no("no minute has passed", house.isBoiling(0));
        Words.run(house, "fill 0 16;burner 0 5;minutes 11");
        Expect.no("a minute before", house.isBoiling(0));
        house.pass(1);
        Expect.yes("in the very minute", house.isBoiling(0));
        house.setBurner(0, 0);
        Expect.yes("turned off since", house.isBoiling(0));
        house.fill(0, 2);
        Expect.yes("cooled since", house.isBoiling(0));
        house.pass(1);
        Expect.no("a minute after", house.isBoiling(0));
        TeaHouse poured = Houses.hot(4);
        poured.setBurner(0, 2);
        poured.pass(1);
        poured.order(0, 1, 60, 1);
        poured.serveNext();
        Expect.same("no water is left", poured.volume(0), 0.0);
        Expect.yes("emptied since", poured.isBoiling(0));
        TeaHouse boiledAway = Houses.hot(4);
        boiledAway.setBurner(0, 4);
        boiledAway.pass(1);
        Expect.same("all has boiled away", boiledAway.volume(0), 0.0);
        Expect.yes("boiled away in the last minute", boiledAway.isBoiling(0));
        boiledAway.pass(1);
        Expect.no("boiled away before the last minute", boiledAway.isBoiling(0));
    }

    /** Promise 21: `kettle`: the number of the kettle */
    private static void testBoilingOfTheFirstAndTheLast() {
        Expect.no("the first", endsInUse().isBoiling(0));
        Expect.yes("the last", endsInUse().isBoiling(3));
        TeaHouse house = Houses.hot(31);
        house.addKettle(4);
        house.setBurner(0, 1);
        house.pass(1);
        Expect.yes("the first alone", house.isBoiling(0));
        Expect.no("not the last", house.isBoiling(1));
    }

    /** Promise 21: Throws `IndexOutOfBoundsException` if there is no such kettle */
    private static void testBoilingOfNoKettle() {
        Edges.expectNoSuchKettle("isBoiling", TeaHouse::isBoiling);
    }

    private static void expectUntilBoiling(String what, TeaHouse house, int kettle, int due) {
        Expect.same(what + ", by division", house.minutesUntilBoiling(kettle), due);
        Expect.same(what + ", by minutes", house.minutesUntilBoilingByMinutes(kettle), due);
        String before = Portrait.ofState(house);
        house.minutesUntilBoilingByMinutes(kettle);
        Expect.same(what + ": only a copy has changed", Portrait.ofState(house), before);
        if (due > 1) {
            house.pass(due - 1);
            Expect.no(what + ": not before", house.isBoiling(kettle));
        }
        house.pass(1);
        Expect.yes(what + ": boils then", house.isBoiling(kettle));
    }

    /**
     * Promise 22: Returns after how many minutes a kettle boils for the first time from now on if only minutes pass,
     * computed by a division.
     */
    private static void testDivisionsWithAndWithoutRest() {
        // 160 half degrees are missing: 2, 5, 8, 11 or 14 of them a minute.
        int[] due = {0, 80, 32, 20, 15, 12};
        for (int level = 1; level <= 5; level++) {
            TeaHouse cold = Houses.after("kettle 16;fill 0 16");
            cold.setBurner(0, level);
            expectUntilBoiling("from 20 degrees at level " + level, cold, 0, due[level]);
            TeaHouse cooled = Houses.hot(31);
            int rise = 3 * level - 1;
            cooled.pass(rise);
            cooled.setBurner(0, level);
            expectUntilBoiling("one whole rise at level " + level, cooled, 0, 1);
            TeaHouse colder = Houses.hot(31);
            colder.pass(rise + 1);
            colder.setBurner(0, level);
            expectUntilBoiling("half a degree more at level " + level, colder, 0, 2);
        }
    }

    /** Promise 22: `kettle`: the number of the kettle */
    private static void testUntilBoilingOfTheFirstAndTheLast() {
        expectUntilBoiling("the first", endsInUse(), 0, 79);
        expectUntilBoiling("the last", endsInUse(), 3, 1);
    }

    /** Promise 22: Returns the number of minutes, at least 1. */
    private static void testAtLeastOneMinute() {
        TeaHouse boiling = endsInUse();
        Expect.same("boiled in the last minute", boiling.minutesUntilBoiling(3), 1);
        TeaHouse hot = Houses.hot(31);
        hot.setBurner(0, 1);
        Expect.same("100 degrees already", hot.minutesUntilBoiling(0), 1);
        TeaHouse nearly = Houses.hot(31);
        nearly.pass(1);
        nearly.setBurner(0, 5);
        Expect.same("99.5 degrees", nearly.minutesUntilBoiling(0), 1);
    }

    /** Promise 22: Throws `IndexOutOfBoundsException` if there is no such kettle */
    private static void testUntilBoilingOfNoKettle() {
        Edges.expectNoSuchKettle("minutesUntilBoiling", TeaHouse::minutesUntilBoiling);
    }

    private static void expectNever(String method, Expect.NumberCall call) {
        Supplier<TeaHouse> noWater = () -> Houses.after("kettle 16;burner 0 5");
        Expect.refused(method + " without water", noWater, NO_ELEMENT, house -> call.make(house, 0));
        Supplier<TeaHouse> noFire = () -> Houses.after("kettle 16;fill 0 16");
        Expect.refused(method + " without fire", noFire, NO_ELEMENT, house -> call.make(house, 0));
        Supplier<TeaHouse> hot = () -> Houses.hot(31);
        Expect.refused(method + " at 100 degrees without fire", hot, NO_ELEMENT, house -> call.make(house, 0));
        Supplier<TeaHouse> boiledAway = Houses.and(() -> Houses.hot(5), house -> {
            house.setBurner(0, 5);
            house.pass(1);
        });
        Expect.refused(method + " after the last water", boiledAway, NO_ELEMENT, house -> call.make(house, 0));
        Supplier<TeaHouse> oneEighth = Houses.and(() -> Houses.hot(6), house -> {
            house.setBurner(0, 5);
            house.pass(1);
        });
        call.make(oneEighth.get(), 0);
    }

    /** Promise 22: Throws `NoSuchElementException` if it never boils */
    private static void testNeverBoils() {
        expectNever("minutesUntilBoiling", TeaHouse::minutesUntilBoiling);
    }

    /** Promise 23: Returns the same number as minutesUntilBoiling, but lets minutes pass on a copy. */
    private static void testTheSameByMinutes() {
        for (int level = 1; level <= 5; level++) {
            TeaHouse house = Houses.after("kettle 16;fill 0 16");
            house.setBurner(0, level);
            for (int left = house.minutesUntilBoiling(0); left >= 1; left--) {
                Expect.same("by minutes", house.minutesUntilBoilingByMinutes(0), left);
                Expect.same("by division", house.minutesUntilBoiling(0), left);
                house.pass(1);
            }
            Expect.same("boiling, by minutes", house.minutesUntilBoilingByMinutes(0), 1);
        }
    }

    /** Promise 23: `kettle`: the number of the kettle */
    private static void testByMinutesOfTheFirstAndTheLast() {
        Expect.same("the first", endsInUse().minutesUntilBoilingByMinutes(0), 79);
        Expect.same("the last", endsInUse().minutesUntilBoilingByMinutes(3), 1);
    }

    /** Promise 23: Throws `IndexOutOfBoundsException` if there is no such kettle */
    private static void testByMinutesOfNoKettle() {
        Edges.expectNoSuchKettle("minutesUntilBoilingByMinutes", TeaHouse::minutesUntilBoilingByMinutes);
    }

    /** Promise 23: Throws `NoSuchElementException` if it never boils */
    private static void testNeverBoilsByMinutes() {
        expectNever("minutesUntilBoilingByMinutes", TeaHouse::minutesUntilBoilingByMinutes);
    }

    private static void expectRanks(String what, TeaHouse house, int... kettles) {
        for (int rank = 0; rank < kettles.length; rank++) {
            Expect.same(what + ", rank " + rank, house.kettleByTemperature(rank), kettles[rank]);
        }
        Expect.thrown(what + ", one rank more", NO_ELEMENT, () -> house.kettleByTemperature(kettles.length));
    }

    /**
     * Promise 24: Returns a kettle by its rank in the order of temperatures: higher temperature first, then greater
     * volume, then lower number.
     */
    private static void testRanksThatBarelyDiffer() {
        TeaHouse house = Houses.withKettles(4);
        expectRanks("all are equal", house, 0, 1, 2, 3);
        house.fill(3, 1);
        expectRanks("a quarter more", house, 3, 0, 1, 2);
        house.fill(1, 1);
        expectRanks("two have a quarter more", house, 1, 3, 0, 2);
        house.fill(0, 4);
        house.setBurner(3, 1);
        house.pass(1);
        expectRanks("a degree warmer", house, 3, 0, 1, 2);
        house.setBurner(3, 0);
        house.pass(1);
        expectRanks("half a degree warmer", house, 3, 0, 1, 2);
        house.pass(1);
        expectRanks("no longer warmer", house, 0, 1, 3, 2);
        TeaHouse eighth = Houses.after("kettle 16;kettle 16;fill 0 1;fill 1 1;burner 0 1;burner 1 1");
        Words.run(eighth, "minutes 79;burner 0 2");
        eighth.pass(1);
        Expect.same("both have 100 degrees", eighth.temperature(0), eighth.temperature(1));
        expectRanks("an eighth more", eighth, 1, 0);
    }

    /** Promise 24: `rank`: the rank, starting at 0 */
    private static void testTheFirstAndTheLastRank() {
        for (int count = 1; count <= 4; count++) {
            TeaHouse house = Houses.withKettles(count);
            Expect.same("rank 0 of " + count, house.kettleByTemperature(0), 0);
            Expect.same("the last rank of " + count, house.kettleByTemperature(count - 1), count - 1);
        }
    }

    /** Promise 24: Throws `NoSuchElementException` if there is no such rank */
    private static void testNoSuchRank() {
        for (int count = 0; count <= 4; count++) {
            int kettles = count;
            Expect.refusedEach("kettleByTemperature", () -> Houses.withKettles(kettles), NO_ELEMENT,
                    TeaHouse::kettleByTemperature, -1, kettles, 4);
        }
        Expect.refusedEach("kettleByTemperature", Houses::busy, NO_ELEMENT, TeaHouse::kettleByTemperature, -1, 3);
    }

    /**
     * Promise 51: Returns the mean temperature of the kettles: the sum of the temperatures, each converted to double,
     * divided by the number of kettles.
     */
    private static void testMeanOfOneAndOfFour() {
        Expect.same("one cold kettle", Houses.withKettles(1).meanTemperature(), 20.0);
        Expect.same("one hot kettle", Houses.hot(31).meanTemperature(), 100.0);
        Expect.same("four cold kettles", Houses.withKettles(4).meanTemperature(), 20.0);
        Expect.same("four kettles", endsInUse().meanTemperature(), (21.0 + 20.0 + 20.0 + 100.0) / 4.0);
        TeaHouse three = Houses.after("kettle 4;kettle 4;kettle 4;fill 2 1;burner 2 1",
                "minutes 1;burner 2 0;minutes 1");
        Expect.same("a sixth of a degree", three.meanTemperature(), 60.5 / 3.0);
    }

    /** Promise 51: Throws `ArithmeticException` if there are no kettles */
    private static void testMeanOfNoKettle() {
        Expect.refused("meanTemperature", TeaHouse::new, ArithmeticException.class, house -> house.meanTemperature());
        Supplier<TeaHouse> undone = Houses.and(() -> Houses.withKettles(1), house -> house.undo());
        Expect.refused("meanTemperature after undo", undone, ArithmeticException.class,
                house -> house.meanTemperature());
        Supplier<TeaHouse> ordered = () -> Houses.withOrders(1);
        Expect.refused("meanTemperature with an order", ordered, ArithmeticException.class,
                house -> house.meanTemperature());
    }
}
