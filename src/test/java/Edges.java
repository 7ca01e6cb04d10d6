import java.util.List;
import java.util.NoSuchElementException;
import java.util.function.Supplier;

/** Boundaries that many methods share. */
final class Edges {
    static final List<Supplier<TeaHouse>> NEW_AND_BUSY = List.of(TeaHouse::new, Houses::busy);

    private Edges() {
    }

    /** The numbers next to those of the kettles, for every count of kettles. */
    static void expectNoSuchKettle(String method, Expect.NumberCall call) {
        Class<IndexOutOfBoundsException> type = IndexOutOfBoundsException.class;
        for (int count = 0; count <= 4; count++) {
            int kettles = count;
            Expect.refusedEach(method, () -> Houses.withKettles(kettles), type, call, -1, kettles, 4, 5);
        }
        Expect.refusedEach(method, Houses::busy, type, call, -1, 3, 4);
        Expect.refusedEach(method, Houses::full, type, call, -1, 4);
        Supplier<TeaHouse> undone = Houses.and(() -> Houses.withKettles(2), house -> house.undo());
        Expect.refusedEach(method, undone, type, call, -1, 1);
    }

    /** Numbers that no order has, has no longer, or has not yet. */
    static void expectNoSuchOrder(String method, Expect.NumberCall call) {
        Class<NoSuchElementException> type = NoSuchElementException.class;
        Expect.refusedEach(method, TeaHouse::new, type, call, -1, 0, 1);
        Expect.refusedEach(method, () -> Houses.withOrders(10), type, call, -1, 10);
        Expect.refusedEach(method, Houses::busy, type, call, -1, 0, 1, 4);
        Expect.refusedEach(method, Houses::full, type, call, -1, 0, 3, 14);
        Supplier<TeaHouse> undone = Houses.and(() -> Houses.withOrders(2), house -> house.undo());
        Expect.refusedEach(method, undone, type, call, -1, 1);
    }
}
