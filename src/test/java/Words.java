/** Whole texts into and out of a tea house that takes and gives single characters. */
final class Words {
    private Words() {
    }

    static void type(TeaHouse house, String text) {
        for (int i = 0; i < text.length(); i++) {
            house.append(text.charAt(i));
        }
    }

    static int run(TeaHouse house, String program) {
        type(house, program);
        return house.run();
    }

    static String line(TeaHouse house) {
        StringBuilder text = new StringBuilder();
        for (int i = 0; i < 10_000; i++) {
            try {
                text.append(house.lineChar(i));
            } catch (IndexOutOfBoundsException e) {
                return text.toString();
            }
        }
        return text.toString();
    }

    static String kettle(TeaHouse house, int kettle) {
        int length = house.formatKettle(kettle);
        return checked(house, length);
    }

    static String order(TeaHouse house, int order) {
        int length = house.formatOrder(order);
        return checked(house, length);
    }

    static String ledger(TeaHouse house) {
        int length = house.formatLedger();
        return checked(house, length);
    }

    private static String checked(TeaHouse house, int length) {
        String text = line(house);
        Expect.same("the length of '" + text + "'", length, text.length());
        return text;
    }
}
