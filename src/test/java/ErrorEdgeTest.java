import java.util.List;
import java.util.NoSuchElementException;
import java.util.function.Supplier;

/** What the terms say about errors: what a refused call keeps, and which of several exceptions it throws. */
public final class ErrorEdgeTest {
    private static final Class<IllegalArgumentException> OUT_OF_RANGE = IllegalArgumentException.class;
    private static final Class<IllegalStateException> NOT_NOW = IllegalStateException.class;
    private static final Class<IndexOutOfBoundsException> NO_INDEX = IndexOutOfBoundsException.class;
    private static final Class<NoSuchElementException> NO_ELEMENT = NoSuchElementException.class;

    public static void main(String[] args) {
        Expect.allOf(ErrorEdgeTest.class);
    }

    /**
     * Terms: A method that throws an exception leaves the tea house unchanged, unless its description says otherwise.
     */
    private static void testRefusedCallsLeaveItUnchanged() {
        List<Supplier<TeaHouse>> houses = List.of(TeaHouse::new, Houses::busy, Houses::full);
        for (Supplier<TeaHouse> made : houses) {
            Expect.refused("addKettle", made, OUT_OF_RANGE, house -> house.addKettle(17));
            Expect.refused("fill", made, NO_INDEX, house -> house.fill(4, 1));
            Expect.refused("setBurner", made, NO_INDEX, house -> house.setBurner(4, 1));
            Expect.refused("order", made, OUT_OF_RANGE, house -> house.order(0, 1, 60, 10));
            Expect.refused("cancel", made, NO_ELEMENT, house -> house.cancel(14));
            Expect.refused("wash", made, OUT_OF_RANGE, house -> house.wash(21));
            Expect.refused("sellSteam", made, OUT_OF_RANGE, house -> house.sellSteam(81));
            Expect.refused("sellSteam", made, NOT_NOW, house -> house.sellSteam(80));
            Expect.refused("setCupPrice", made, OUT_OF_RANGE, house -> house.setCupPrice(81));
            Expect.refused("setSteamPrice", made, OUT_OF_RANGE, house -> house.setSteamPrice(81));
            Expect.refused("pass", made, OUT_OF_RANGE, house -> house.pass(121));
            Expect.refused("formatKettle", made, NO_INDEX, house -> house.formatKettle(4));
            Expect.refused("formatOrder", made, NO_ELEMENT, house -> house.formatOrder(14));
            Expect.refused("lineChar", made, NO_INDEX, house -> house.lineChar(100));
            Expect.refused("append", made, OUT_OF_RANGE, house -> house.append((char) 127));
            Expect.refused("greatestIncome", made, OUT_OF_RANGE, house -> house.greatestIncome(15));
            Expect.refused("minutesUntilSuitable", made, NO_ELEMENT, house -> house.minutesUntilSuitable(14));
        }
        Expect.refused("addKettle", Houses::full, NOT_NOW, house -> house.addKettle(4));
        Expect.refused("fill", Houses::full, OUT_OF_RANGE, house -> house.fill(0, 17));
        Expect.refused("fill", Houses::full, NOT_NOW, house -> house.fill(0, 5));
        Expect.refused("order", Houses::full, NOT_NOW, house -> house.order(0, 1, 60, 1));
        Expect.refused("serveNext", Houses::full, NOT_NOW, house -> house.serveNext());
        Expect.refused("closeNight", Houses::full, NOT_NOW, house -> house.closeNight());
        Expect.refused("append", Houses::full, NOT_NOW, house -> house.append('x'));
        Expect.refused("restore", Houses::full, NOT_NOW, house -> house.restore());
        Expect.refused("errorPosition", Houses::full, NO_ELEMENT, house -> house.errorPosition());
        Expect.refused("wash", Houses::busy, NOT_NOW, house -> house.wash(2));
        Expect.refused("undo", TeaHouse::new, NOT_NOW, house -> house.undo());
    }

    /** Terms: If several conditions of a method apply, the exception that is listed first is thrown. */
    private static void testTheExceptionListedFirst() {
        Supplier<TeaHouse> full = Houses::full;
        Expect.refused("a fifth kettle of no size", full, OUT_OF_RANGE, house -> house.addKettle(1));
        Expect.refused("a fifth kettle of great size", full, OUT_OF_RANGE, house -> house.addKettle(17));
        Expect.refused("no kettle, no volume", full, NO_INDEX, house -> house.fill(4, 0));
        Expect.refused("no kettle, great volume", full, NO_INDEX, house -> house.fill(-1, 17));
        Expect.refused("no kettle, full kettle", full, NO_INDEX, house -> house.fill(4, 16));
        Expect.refused("great volume in a full kettle", full, OUT_OF_RANGE, house -> house.fill(0, 17));
        Expect.refused("no kettle, no level", full, NO_INDEX, house -> house.setBurner(4, -1));
        Expect.refused("no kettle, great level", full, NO_INDEX, house -> house.setBurner(-1, 6));
        Expect.refused("an eleventh order to no table", full, OUT_OF_RANGE, house -> house.order(10, 1, 60, 1));
        Expect.refused("an eleventh order of no cup", full, OUT_OF_RANGE, house -> house.order(0, 0, 60, 1));
        Expect.refused("an eleventh order, too cold", full, OUT_OF_RANGE, house -> house.order(0, 1, 59, 1));
        Expect.refused("an eleventh order, no priority", full, OUT_OF_RANGE, house -> house.order(0, 1, 60, 0));
        Expect.refused("wash more than all", full, OUT_OF_RANGE, house -> house.wash(21));
        Expect.refused("wash more than none", TeaHouse::new, OUT_OF_RANGE, house -> house.wash(21));
        Expect.refused("sell more than all", full, OUT_OF_RANGE, house -> house.sellSteam(81));
        Expect.refused("no kettle never boils", full, NO_INDEX, house -> house.minutesUntilBoiling(4));
        Expect.refused("no kettle never boils by minutes", TeaHouse::new, NO_INDEX,
                house -> house.minutesUntilBoilingByMinutes(0));
        Expect.refused("15 of 14 nights", full, OUT_OF_RANGE, house -> house.greatestIncome(15));
        Expect.refused("15 of no nights", TeaHouse::new, OUT_OF_RANGE, house -> house.greatestIncomeBySums(15));
        Expect.refused("a 61st character, strange", full, OUT_OF_RANGE, house -> house.append((char) 31));
        Supplier<TeaHouse> malformed = () -> Houses.withText("serve;close;serves");
        TeaHouse house = malformed.get();
        Expect.thrown("malformed after a failing command", OUT_OF_RANGE, house::run);
        Expect.thrown("no command was tried", NO_ELEMENT, house::failedCommand);
    }
}
