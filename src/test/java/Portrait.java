import java.util.function.Supplier;

/** All that the questions of the face tell of a tea house, but for the line, which the formatting calls replace. */
final class Portrait {
    private final TeaHouse house;
    private final StringBuilder text = new StringBuilder();

    private Portrait(TeaHouse house) {
        this.house = house;
    }

    static String of(TeaHouse house) {
        Portrait portrait = new Portrait(house);
        portrait.paint();
        portrait.add("undoable", house::undoableCount);
        portrait.add("malformed", house::errorPosition);
        portrait.add("failed", house::failedCommand);
        portrait.text.append(" line=").append(Words.line(house));
        return portrait.text.toString();
    }

    /** What changes can change: what undo and restore bring back. */
    static String ofState(TeaHouse house) {
        Portrait portrait = new Portrait(house);
        portrait.paint();
        return portrait.text.toString();
    }

    /** Few answers that tell most changes apart, for tests that ask often. */
    static String inShort(TeaHouse house) {
        Portrait portrait = new Portrait(house);
        portrait.paintSums();
        portrait.add("kettles", house::kettleCount);
        portrait.add("waiting", house::waitingCount);
        portrait.add("nights", house::nightCount);
        return portrait.text.toString();
    }

    private void paint() {
        for (int kettle = 0; kettle < house.kettleCount(); kettle++) {
            paintKettle(kettle);
        }
        for (int position = 0; position < house.waitingCount(); position++) {
            paintOrder(house.orderAt(position));
        }
        for (int night = 0; night < house.nightCount(); night++) {
            text.append(" night ").append(house.nightIncome(night));
        }
        paintSums();
        add("total", house::totalIncome);
        add("sales", house::totalIncomeBySales);
        add("can serve", house::canServe);
        add("balanced", house::isBalanced);
    }

    private void paintSums() {
        add("clean", house::cleanCups);
        add("steam", house::steam);
        add("boiled", house::boiledTotal);
        add("poured", house::pouredTotal);
        add("filled", house::filledTotal);
        add("cup", house::cupPrice);
        add("litre", house::steamPrice);
        add("income", house::income);
        add("served", house::servedOrders);
        add("heard", house::whistlesHeard);
        add("lost", house::whistlesLost);
    }

    private void paintKettle(int kettle) {
        text.append(" kettle ").append(kettle);
        add("capacity", () -> house.capacity(kettle));
        add("volume", () -> house.volume(kettle));
        add("temperature", () -> house.temperature(kettle));
        add("burner", () -> house.burner(kettle));
        add("boiling", () -> house.isBoiling(kettle));
        add("until", () -> house.minutesUntilBoiling(kettle));
    }

    private void paintOrder(int order) {
        text.append(" order ").append(order);
        add("cups", () -> house.cupsOf(order));
        add("price", () -> house.priceOf(order));
        add("kettle", () -> house.kettleFor(order));
        add("suits in", () -> house.minutesUntilSuitable(order));
    }

    private void add(String name, Supplier<Object> question) {
        text.append(' ').append(name).append('=').append(Probe.answer(question));
    }
}
