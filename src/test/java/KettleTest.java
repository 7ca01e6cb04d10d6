import java.util.NoSuchElementException;

/** Promises 2 to 4, 15 to 20, 24, 36, 37 and 51: kettles, their water and their burners. */
public final class KettleTest {
    public static void main(String[] args) {
        testAddKettle();
        testAddKettleRefused();
        testFill();
        testFillCoolsTheWater();
        testFillRefused();
        testSetBurner();
        testSetBurnerRefused();
        testQuestionsOfNoKettle();
        testTemperatureBits();
        testKettleByTemperature();
        testMeanTemperature();
        Expect.end();
    }

    private static void testAddKettle() {
        TeaHouse house = new TeaHouse();
        Expect.same("first kettle", house.addKettle(2), 0);
        Expect.same("second kettle", house.addKettle(16), 1);
        Expect.same("third kettle", house.addKettle(5), 2);
        Expect.same("fourth kettle", house.addKettle(3), 3);
        Expect.same("kettleCount", house.kettleCount(), 4);
        Expect.same("least capacity", house.capacity(0), 0.5);
        Expect.same("greatest capacity", house.capacity(1), 4.0);
        Expect.same("capacity in quarters", house.capacity(2), 1.25);
        Expect.same("volume at first", house.volume(3), 0.0);
        Expect.same("temperature at first", house.temperature(3), 20.0);
        Expect.same("burner at first", house.burner(3), 0);
        Expect.no("boiling at first", house.isBoiling(3));
        Expect.same("added kettles can be undone", house.undoableCount(), 4);
    }

    private static void testAddKettleRefused() {
        TeaHouse house = new TeaHouse();
        for (int quarters : new int[] {1, 0, -1, 17, Integer.MIN_VALUE, Integer.MAX_VALUE}) {
            Expect.thrown("addKettle(" + quarters + ")", IllegalArgumentException.class,
                    () -> house.addKettle(quarters));
        }
        for (int i = 0; i < 4; i++) {
            house.addKettle(4);
        }
        Expect.thrown("a fifth kettle", IllegalStateException.class, () -> house.addKettle(4));
        Expect.thrown("a fifth kettle of no size", IllegalArgumentException.class, () -> house.addKettle(1));
    }

    private static void testFill() {
        TeaHouse house = new TeaHouse();
        house.addKettle(16);
        house.addKettle(4);
        Expect.same("fill cold", house.fill(1, 3), 20.0);
        Expect.same("volume", house.volume(1), 0.75);
        Expect.same("the other kettle", house.volume(0), 0.0);
        house.fill(1, 1);
        Expect.same("filled to the brim", house.volume(1), 1.0);
        house.fill(0, 16);
        Expect.same("most at once", house.volume(0), 4.0);
        Expect.same("filledTotal", house.filledTotal(), 5.0);
        Expect.same("pouredTotal", house.pouredTotal(), 0.0);
    }

    private static void testFillCoolsTheWater() {
        TeaHouse house = new TeaHouse();
        house.addKettle(16);
        house.fill(0, 3);
        house.setBurner(0, 5);
        house.pass(5);
        Expect.same("after 5 minutes", house.temperature(0), 55.0);
        // 70 half degrees times 6 eighths, divided by 14 eighths
        Expect.same("mixed", house.fill(0, 4), 35.0);
        Expect.same("temperature after the mixing", house.temperature(0), 35.0);
        // 30 half degrees times 14, divided by 16: 26.25, rounded towards zero
        Expect.same("mixed and rounded", house.fill(0, 1), 33.0);
        house.setBurner(0, 0);
        house.pass(1);
        Expect.same("cooler by half a degree", house.temperature(0), 32.5);
        // 25 half degrees times 16, divided by 22: 18.18
        Expect.same("mixed from an odd count", house.fill(0, 3), 29.0);
        Expect.same("the burner stays", house.burner(0), 0);
    }

    private static void testFillRefused() {
        TeaHouse house = new TeaHouse();
        Expect.thrown("fill without kettles", IndexOutOfBoundsException.class, () -> house.fill(0, 1));
        house.addKettle(4);
        house.addKettle(16);
        for (int kettle : new int[] {-1, 2, 3, 4, Integer.MIN_VALUE, Integer.MAX_VALUE}) {
            Expect.thrown("fill(" + kettle + ", 0)", IndexOutOfBoundsException.class, () -> house.fill(kettle, 0));
            Expect.thrown("fill(" + kettle + ", 1)", IndexOutOfBoundsException.class, () -> house.fill(kettle, 1));
        }
        for (int quarters : new int[] {0, -1, 17, Integer.MIN_VALUE, Integer.MAX_VALUE, 1 << 30}) {
            Expect.thrown("fill(0, " + quarters + ")", IllegalArgumentException.class, () -> house.fill(0, quarters));
        }
        Expect.thrown("more than the capacity", IllegalStateException.class, () -> house.fill(0, 5));
        Expect.thrown("most at once into a small kettle", IllegalStateException.class, () -> house.fill(0, 16));
        house.fill(0, 4);
        Expect.thrown("one quarter too much", IllegalStateException.class, () -> house.fill(0, 1));
        house.setBurner(0, 1);
        house.pass(80);
        Expect.same("an eighth has boiled", house.volume(0), 0.875);
        Expect.thrown("an eighth too much", IllegalStateException.class, () -> house.fill(0, 1));
        house.pass(1);
        Expect.same("a quarter has boiled", house.fill(0, 1), 80.0);
    }

    private static void testSetBurner() {
        TeaHouse house = new TeaHouse();
        house.addKettle(4);
        house.addKettle(4);
        Expect.same("from 0", house.setBurner(1, 5), 0);
        Expect.same("from 5", house.setBurner(1, 2), 5);
        Expect.same("burner", house.burner(1), 2);
        Expect.same("the other burner", house.burner(0), 0);
        Expect.same("to 0", house.setBurner(1, 0), 2);
        Expect.same("burner off", house.burner(1), 0);
        Expect.same("no minute has passed", house.temperature(1), 20.0);
    }

    private static void testSetBurnerRefused() {
        TeaHouse house = new TeaHouse();
        house.addKettle(4);
        for (int kettle : new int[] {-1, 1, 4, Integer.MIN_VALUE, Integer.MAX_VALUE}) {
            Expect.thrown("setBurner(" + kettle + ", 9)", IndexOutOfBoundsException.class,
                    () -> house.setBurner(kettle, 9));
        }
        for (int level : new int[] {-1, 6, Integer.MIN_VALUE, Integer.MAX_VALUE}) {
            Expect.thrown("setBurner(0, " + level + ")", IllegalArgumentException.class,
                    () -> house.setBurner(0, level));
        }
    }

    private static void testQuestionsOfNoKettle() {
        TeaHouse house = new TeaHouse();
        house.addKettle(4);
        house.addKettle(4);
        Class<IndexOutOfBoundsException> type = IndexOutOfBoundsException.class;
        for (int kettle : new int[] {-1, 2, 3, 4, Integer.MIN_VALUE, Integer.MAX_VALUE}) {
            Expect.thrown("capacity(" + kettle + ")", type, () -> house.capacity(kettle));
            Expect.thrown("volume(" + kettle + ")", type, () -> house.volume(kettle));
            Expect.thrown("temperature(" + kettle + ")", type, () -> house.temperature(kettle));
            Expect.thrown("temperatureBits(" + kettle + ")", type, () -> house.temperatureBits(kettle));
            Expect.thrown("burner(" + kettle + ")", type, () -> house.burner(kettle));
            Expect.thrown("isBoiling(" + kettle + ")", type, () -> house.isBoiling(kettle));
            Expect.thrown("minutesUntilBoiling(" + kettle + ")", type, () -> house.minutesUntilBoiling(kettle));
            Expect.thrown("minutesUntilBoilingByMinutes(" + kettle + ")", type,
                    () -> house.minutesUntilBoilingByMinutes(kettle));
            Expect.thrown("formatKettle(" + kettle + ")", type, () -> house.formatKettle(kettle));
        }
    }

    private static void testTemperatureBits() {
        TeaHouse house = new TeaHouse();
        house.addKettle(16);
        house.fill(0, 16);
        Expect.same("the bits of 20 degrees", house.temperatureBits(0), 0x41a00000);
        house.setBurner(0, 5);
        house.pass(12);
        Expect.same("the bits of 100 degrees", house.temperatureBits(0), 0x42c80000);
        house.setBurner(0, 0);
        for (int minute = 1; minute <= 170; minute++) {
            house.pass(1);
            Expect.same("bits " + minute + " minutes later", house.temperatureBits(0),
                    Float.floatToIntBits(Math.max(20.0f, 100.0f - 0.5f * minute)));
        }
        Expect.same("cold again", house.temperature(0), 20.0);
    }

    private static void testKettleByTemperature() {
        TeaHouse house = new TeaHouse();
        Expect.thrown("no kettle has rank 0", NoSuchElementException.class, () -> house.kettleByTemperature(0));
        Words.run(house, "kettle 4;kettle 4;kettle 4;kettle 4");
        expectRanks(house, "equal kettles", 0, 1, 2, 3);
        house.fill(3, 1);
        house.fill(1, 1);
        expectRanks(house, "greater volume first", 1, 3, 0, 2);
        house.fill(3, 1);
        expectRanks(house, "the fullest first", 3, 1, 0, 2);
        house.setBurner(1, 1);
        house.pass(1);
        expectRanks(house, "higher temperature first", 1, 3, 0, 2);
        for (int rank : new int[] {-1, 4, Integer.MIN_VALUE, Integer.MAX_VALUE}) {
            Expect.thrown("kettleByTemperature(" + rank + ")", NoSuchElementException.class,
                    () -> house.kettleByTemperature(rank));
        }
    }

    private static void expectRanks(TeaHouse house, String what, int... kettles) {
        for (int rank = 0; rank < kettles.length; rank++) {
            Expect.same(what + ", rank " + rank, house.kettleByTemperature(rank), kettles[rank]);
        }
    }

    private static void testMeanTemperature() {
        TeaHouse house = new TeaHouse();
        Expect.thrown("no mean without kettles", ArithmeticException.class, house::meanTemperature);
        house.addKettle(4);
        Expect.same("the mean of one kettle", house.meanTemperature(), 20.0);
        Words.run(house, "kettle 4;kettle 4");
        Expect.same("the mean of cold kettles", house.meanTemperature(), 20.0);
        house.fill(1, 1);
        house.setBurner(1, 1);
        house.pass(1);
        Expect.same("the mean with a third", house.meanTemperature(), 61.0 / 3.0);
        house.addKettle(4);
        Expect.same("the mean of four", house.meanTemperature(), 20.25);
    }
}
