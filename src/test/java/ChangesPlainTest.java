/** The sentences of promises 2 to 14 and 58 to 62 that name no boundary, with ordinary inputs. */
public final class ChangesPlainTest {
    public static void main(String[] args) {
        Expect.allOf(ChangesPlainTest.class);
    }

    /** Promise 2: Adds a kettle. */
    private static void testAKettleMore() {
        TeaHouse house = new TeaHouse();
        house.addKettle(7);
        Expect.same("one kettle", house.kettleCount(), 1);
        house.addKettle(9);
        Expect.same("two kettles", house.kettleCount(), 2);
        Expect.same("the older one", Words.kettle(house, 0), "K0 0/14 40h");
        Expect.same("the newer one", Words.kettle(house, 1), "K1 0/18 40h");
    }

    /** Promise 3: Adds water of 20 degrees to a kettle. */
    private static void testWaterOf20Degrees() {
        TeaHouse house = Houses.after("kettle 16;kettle 16;fill 0 4;fill 1 4", "burner 0 3;burner 1 3;minutes 10");
        Expect.same("warm water", house.temperature(0), 60.0);
        house.fill(0, 4);
        Expect.same("as much water of 20 degrees again", house.temperature(0), 40.0);
        Expect.same("its volume", house.volume(0), 2.0);
        Expect.same("all that was filled in", house.filledTotal(), 3.0);
        Expect.same("its burner", house.burner(0), 3);
        Expect.same("the other kettle", Words.kettle(house, 1), "K1 8/32 120h b3");
    }

    /** Promise 4: Sets the level of the burner of a kettle. */
    private static void testABurnerAtItsLevel() {
        TeaHouse house = Houses.after("kettle 8;kettle 8;fill 0 4;fill 1 4");
        house.setBurner(1, 4);
        Expect.same("its level", house.burner(1), 4);
        Expect.same("the other level", house.burner(0), 0);
        Expect.same("before a minute passes", house.temperature(1), 20.0);
        house.pass(3);
        Expect.same("three minutes at level 4", house.temperature(1), 36.5);
        Expect.same("three minutes at level 0", house.temperature(0), 20.0);
    }

    /** Promise 5: Accepts an order. */
    private static void testAnAcceptedOrder() {
        TeaHouse house = new TeaHouse();
        house.order(7, 3, 85, 4);
        house.order(2, 5, 72, 6);
        Expect.same("both wait", house.waitingCount(), 2);
        Expect.same("the first", Words.order(house, 0), "#0 t7 3x85 p4");
        Expect.same("the second", Words.order(house, 1), "#1 t2 5x72 p6");
        Expect.same("the higher priority is served first", house.orderAt(0), 1);
        Expect.same("the cups stay clean until then", house.cleanCups(), 20);
    }

    /** Promise 6: Cancels a waiting order. */
    private static void testACancelledOrder() {
        TeaHouse house = Houses.after("order 1 2 60 3;order 2 3 70 5;order 3 4 80 4");
        house.cancel(2);
        Expect.same("two still wait", house.waitingCount(), 2);
        Expect.same("the first of them", Words.order(house, house.orderAt(0)), "#1 t2 3x70 p5");
        Expect.same("the second of them", Words.order(house, house.orderAt(1)), "#0 t1 2x60 p3");
        Expect.thrown("it no longer waits", java.util.NoSuchElementException.class, () -> house.cupsOf(2));
        Expect.same("it was not served", house.servedOrders(), 0);
        Expect.same("nothing was paid", house.income(), 0.0);
    }

    /** Promise 7: Returns the number of the order. */
    private static void testTheNumberOfTheServedOrder() {
        TeaHouse house = Houses.hot(24);
        Words.run(house, "order 4 1 60 2;order 5 2 60 2;order 6 1 60 7;cancel 0");
        Expect.same("the higher priority", house.serveNext(), 2);
        Expect.same("the lower priority", house.serveNext(), 1);
    }

    /** Promise 8: Washes used cups. */
    private static void testWashedCups() {
        TeaHouse house = Houses.withUsedCups(9);
        house.wash(4);
        Expect.same("four of nine are clean again", house.cleanCups(), 15);
        house.wash(3);
        Expect.same("seven of nine are clean again", house.cleanCups(), 18);
        Expect.thrown("only two are left", IllegalStateException.class, () -> house.wash(3));
    }

    /** Promise 9: Sells collected steam. Returns the price that is paid. */
    private static void testSoldSteam() {
        TeaHouse house = Houses.withSteam(30);
        Expect.same("a litre and a half at 2", house.sellSteam(12), 3.0);
        Expect.same("the rest", house.steam(), 2.25);
        Expect.same("it was paid", house.income(), 3.0);
        house.setSteamPrice(7);
        Expect.same("five eighths at 7", house.sellSteam(5), 4.375);
        Expect.same("the rest after that", house.steam(), 1.625);
        Expect.same("both were paid", house.income(), 7.375);
        Expect.same("as much was boiled as before", house.boiledTotal(), 3.75);
    }

    /** Promise 10: Sets the price of a cup. */
    private static void testAPriceOfACup() {
        TeaHouse house = Houses.hot(24);
        house.order(1, 3, 60, 5);
        house.order(1, 3, 60, 4);
        house.setCupPrice(20);
        Expect.same("the price", house.cupPrice(), 2.5);
        Expect.same("of an order that waited before", house.priceOf(0), 7.5);
        Expect.same("a litre of steam costs as much as before", house.steamPrice(), 2.0);
        house.serveNext();
        house.setCupPrice(9);
        Expect.same("paid at the price before", house.income(), 7.5);
        house.serveNext();
        Expect.same("paid at the new price", house.income(), 10.875);
    }

    /** Promise 11: Sets the price of a litre of steam. */
    private static void testAPriceOfALitre() {
        TeaHouse house = Houses.withSteam(30);
        house.setSteamPrice(5);
        Expect.same("the price", house.steamPrice(), 5.0);
        Expect.same("a cup costs as much as before", house.cupPrice(), 1.5);
        Expect.same("a litre", house.sellSteam(8), 5.0);
        house.setSteamPrice(6);
        Expect.same("paid at the price before", house.income(), 5.0);
        Expect.same("a litre at the new price", house.sellSteam(8), 6.0);
    }

    /** Promise 12: Sets whether an attendant is present. */
    private static void testAnAttendantComesAndGoes() {
        TeaHouse house = Houses.after("kettle 16;kettle 16;fill 0 16;fill 1 16");
        house.setAttendant(false);
        Words.run(house, "burner 0 5;minutes 12");
        house.setAttendant(true);
        Words.run(house, "burner 1 5;minutes 12");
        Expect.same("lost while absent", house.whistlesLost(), 1);
        Expect.same("heard while present", house.whistlesHeard(), 1);
    }

    /** Promise 14: Closes the present night. */
    private static void testAClosedNight() {
        TeaHouse house = Houses.withSteam(30);
        house.sellSteam(7);
        house.closeNight();
        Expect.same("one night", house.nightCount(), 1);
        Expect.same("its income", house.nightIncome(0), 1.75);
        Expect.same("the next night has none", house.income(), 0.0);
        Expect.same("the steam stays", house.steam(), 2.875);
        house.sellSteam(9);
        house.closeNight();
        Expect.same("two nights", house.nightCount(), 2);
        Expect.same("the income of the second", house.nightIncome(1), 2.25);
        Expect.same("the income of the first", house.nightIncome(0), 1.75);
    }

    /** Promise 58: Appends a character to the input buffer. */
    private static void testAppendedCharacters() {
        TeaHouse house = new TeaHouse();
        Words.type(house, "cup 2");
        house.append('4');
        Expect.same("nothing happens before the run", house.cupPrice(), 1.5);
        house.run();
        Expect.same("read from the first to the last", house.cupPrice(), 3.0);
    }

    /** Promise 59: Parses the contents of the input buffer as a program and executes it. */
    private static void testAProgramIsExecuted() {
        TeaHouse house = Houses.after("kettle 12;kettle 6", "fill 1 5;fill 0 10;burner 1 2;cup 9", "minutes 8;litre 4");
        Expect.same("the first kettle", Words.kettle(house, 0), "K0 20/24 40h");
        Expect.same("the second kettle", Words.kettle(house, 1), "K1 10/12 80h b2");
        Expect.same("a cup", house.cupPrice(), 1.125);
        Expect.same("a litre", house.steamPrice(), 4.0);
        TeaHouse other = Houses.after("cup 9;cup 8;cup 16");
        Expect.same("one command after the other", other.cupPrice(), 2.0);
    }

    /** Promise 60: Returns the stored error position. */
    private static void testAStoredErrorPosition() {
        TeaHouse house = Houses.withText("order 1 2 xy");
        Expect.thrown("malformed", IllegalArgumentException.class, house::run);
        Expect.same("errorPosition", house.errorPosition(), 10);
        Expect.same("asked again", house.errorPosition(), 10);
    }

    /** Promise 61: Returns the stored index of a failed command. */
    private static void testAStoredFailedCommand() {
        TeaHouse house = Houses.withText("cup 9;close;cup 8;wash 3;cup 7");
        Expect.thrown("failed", IllegalStateException.class, house::run);
        Expect.same("failedCommand", house.failedCommand(), 3);
        Expect.same("asked again", house.failedCommand(), 3);
    }

    /** Promise 62: Returns the number of changes that can be undone. */
    private static void testChangesThatCanBeUndone() {
        TeaHouse house = Houses.after("kettle 8;fill 0 4", "close");
        house.setCupPrice(5);
        Expect.same("two runs and a call", house.undoableCount(), 3);
        house.undo();
        Expect.same("two runs", house.undoableCount(), 2);
        Expect.same("asked again", house.undoableCount(), 2);
    }
}
