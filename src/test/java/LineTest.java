/** Promises 54, 55 and 57: the formatted line. */
public final class LineTest {
    public static void main(String[] args) {
        testFormatKettle();
        testFormatOrder();
        testLine();
        Expect.end();
    }

    private static void testFormatKettle() {
        TeaHouse house = new TeaHouse();
        house.addKettle(8);
        house.addKettle(16);
        Expect.same("a new kettle", Words.kettle(house, 0), "K0 0/16 40h");
        Expect.same("another new kettle", Words.kettle(house, 1), "K1 0/32 40h");
        house.fill(0, 8);
        house.setBurner(0, 1);
        house.pass(1);
        Expect.same("on the burner", Words.kettle(house, 0), "K0 16/16 42h b1");
        house.setBurner(0, 3);
        house.pass(20);
        Expect.same("boiling", Words.kettle(house, 0), "K0 13/16 200h b3!");
        house.setBurner(0, 0);
        Expect.same("it boiled in the last minute", Words.kettle(house, 0), "K0 13/16 200h!");
        house.pass(1);
        Expect.same("no longer boiling", Words.kettle(house, 0), "K0 13/16 199h");
        testExample();
    }

    private static void testExample() {
        TeaHouse house = new TeaHouse();
        Words.run(house, "kettle 8;fill 0 8;burner 0 2;minutes 32;burner 0 3");
        Expect.same("the document's example", Words.kettle(house, 0), "K0 14/16 200h b3!");
    }

    private static void testFormatOrder() {
        TeaHouse house = new TeaHouse();
        for (int i = 0; i < 12; i++) {
            house.order(0, 1, 60, 1);
            house.cancel(i);
        }
        house.order(3, 2, 90, 7);
        house.order(9, 6, 100, 1);
        Expect.same("the document's example", Words.order(house, 12), "#12 t3 2x90 p7");
        Expect.same("another", Words.order(house, 13), "#13 t9 6x100 p1");
    }

    private static void testLine() {
        TeaHouse house = new TeaHouse();
        Expect.thrown("the line is empty at first", IndexOutOfBoundsException.class, () -> house.lineChar(0));
        house.order(3, 2, 90, 7);
        Expect.same("the length", house.formatOrder(0), 13);
        Expect.same("the first character", house.lineChar(0), '#');
        Expect.same("the last character", house.lineChar(12), '7');
        for (int index : new int[] {-1, 13, 14, Integer.MIN_VALUE, Integer.MAX_VALUE}) {
            Expect.thrown("lineChar(" + index + ")", IndexOutOfBoundsException.class, () -> house.lineChar(index));
        }
        house.cancel(0);
        Expect.same("the line stays", Words.line(house), "#0 t3 2x90 p7");
        Expect.thrown("no such kettle", IndexOutOfBoundsException.class, () -> house.formatKettle(0));
        Expect.same("formatLedger replaces it", house.formatLedger(), 0);
        Expect.same("the line is empty", Words.line(house), "");
    }
}
