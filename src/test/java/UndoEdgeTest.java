import java.util.LinkedHashMap;
import java.util.Map;
import java.util.function.Consumer;
import java.util.function.Supplier;

/** The boundaries of promises 62 to 65 and of what the terms say about undo. */
public final class UndoEdgeTest {
    private static final Class<IllegalStateException> NOT_NOW = IllegalStateException.class;

    public static void main(String[] args) {
        Expect.allOf(UndoEdgeTest.class);
    }

    private static TeaHouse withChanges(int count) {
        TeaHouse house = new TeaHouse();
        for (int price = 1; price <= count; price++) {
            house.setCupPrice(price);
        }
        return house;
    }

    /** Each change of a busy tea house, and one without an effect wherever a method has one. */
    private static Map<String, Consumer<TeaHouse>> changes() {
        Map<String, Consumer<TeaHouse>> changes = new LinkedHashMap<>();
        changes.put("addKettle", house -> house.addKettle(16));
        changes.put("fill", house -> house.fill(0, 1));
        changes.put("setBurner", house -> house.setBurner(0, 5));
        changes.put("setBurner to the same level", house -> house.setBurner(0, 0));
        changes.put("order", house -> house.order(0, 1, 60, 9));
        changes.put("cancel", house -> house.cancel(3));
        changes.put("cancel the last", house -> house.cancel(2));
        changes.put("serveNext", house -> house.serveNext());
        changes.put("wash", house -> house.wash(1));
        changes.put("sellSteam", house -> house.sellSteam(9));
        changes.put("setCupPrice", house -> house.setCupPrice(80));
        changes.put("setCupPrice to the same price", house -> house.setCupPrice(7));
        changes.put("setSteamPrice", house -> house.setSteamPrice(80));
        changes.put("setSteamPrice to the same price", house -> house.setSteamPrice(3));
        changes.put("setAttendant", house -> house.setAttendant(true));
        changes.put("setAttendant as before", house -> house.setAttendant(false));
        changes.put("pass", house -> house.pass(120));
        changes.put("closeNight", house -> house.closeNight());
        changes.put("run", house -> Words.run(house, ";fill 0 1;minutes 3;kettle 2;attend 1;close"));
        changes.put("run without an effect", house -> Words.run(house, ";cup 7;attend 0"));
        return changes;
    }

    /**
     * Terms: The calls of addKettle, fill, setBurner, order, cancel, serveNext, wash, sellSteam, setCupPrice,
     * setSteamPrice, setAttendant, pass, closeNight and run that return normally are changes, even if they have no
     * effect.
     */
    private static void testEveryCallIsOneChange() {
        changes().forEach((name, change) -> {
            Supplier<TeaHouse> made = Houses.and(Houses::busy, UndoEdgeTest::forgetChanges);
            TeaHouse house = made.get();
            change.accept(house);
            Expect.same(name + " is one change", house.undoableCount(), 1);
            house.undo();
            Expect.same(name + " undone", Portrait.ofState(house), Portrait.ofState(made.get()));
            Supplier<TeaHouse> undone = Houses.and(made, changed -> {
                change.accept(changed);
                changed.undo();
            });
            for (Probe probe : new Probe[] {Probe.LINES, Probe.NEXT_ORDER, Probe.ATTENDANT, Probe.PAST}) {
                Expect.same(name + " undone, " + probe, probe.answers(undone.get()), probe.answers(made.get()));
            }
        });
        TeaHouse house = new TeaHouse();
        house.pass(1);
        house.setAttendant(true);
        house.setCupPrice(12);
        house.setSteamPrice(2);
        Words.run(house, "minutes 1");
        Expect.same("five changes without an effect", house.undoableCount(), 5);
        testOtherCallsAreNoChanges();
    }

    /** A restored copy has no past. */
    private static void forgetChanges(TeaHouse house) {
        house.save();
        house.restore();
    }

    private static void testOtherCallsAreNoChanges() {
        TeaHouse house = withChanges(3);
        house.save();
        house.append('c');
        house.formatLedger();
        house.cleanCups();
        house.isBalanced();
        Expect.same("save, append and questions", house.undoableCount(), 3);
        Houses.runInVain(house, "up 9;serve");
        Houses.runInVain(house, "x");
        Expect.thrown("refused", IllegalArgumentException.class, () -> house.setCupPrice(81));
        Expect.thrown("refused", NOT_NOW, house::serveNext);
        Expect.same("refused calls", house.undoableCount(), 3);
        house.undo();
        Expect.same("undo", house.undoableCount(), 2);
    }

    /** Terms: Up to 8 changes can be undone, the latest change first. */
    private static void testEightChangesAndNine() {
        TeaHouse eight = withChanges(8);
        for (int left = 7; left >= 0; left--) {
            eight.undo();
            Expect.same("the latest first", eight.cupPrice(), left == 0 ? 1.5 : left / 8.0);
        }
        Expect.thrown("nothing is left of eight", NOT_NOW, eight::undo);
        TeaHouse nine = withChanges(9);
        for (int left = 8; left >= 1; left--) {
            nine.undo();
            Expect.same("the latest of nine first", nine.cupPrice(), left / 8.0);
        }
        Expect.thrown("the first of nine can't be undone", NOT_NOW, nine::undo);
        Expect.same("the first of nine stays", nine.cupPrice(), 0.125);
    }

    /**
     * Terms: Undo does not affect the input buffer, the error position, the index of the failed command, the
     * formatted line, or the saved copy.
     */
    private static void testWhatUndoLeavesAlone() {
        for (int undone = 1; undone <= 8; undone++) {
            TeaHouse house = Houses.busy();
            for (int i = 0; i < undone; i++) {
                house.undo();
            }
            Expect.same("the error position", house.errorPosition(), 5);
            Expect.same("the failed command", house.failedCommand(), 1);
            Expect.same("the line", Words.line(house), "#2 t9 6x100 p1");
            Expect.same("the length of the buffer", house.append('9'), 6);
            Expect.thrown("the price of 99 in the buffer", NOT_NOW, house::run);
            Expect.same("the saved copy", house.restore(), 1);
            Expect.same("its kettle", house.capacity(0), 1.25);
        }
        TeaHouse run = new TeaHouse();
        Words.run(run, "cup 9");
        Houses.runInVain(run, "close;serve");
        Houses.runInVain(run, "close;");
        run.formatLedger();
        run.save();
        run.undo();
        Expect.same("the price", run.cupPrice(), 1.5);
        Expect.same("the buffer that the run had emptied", run.append('c'), 1);
        Expect.same("the error position after the run", run.errorPosition(), 6);
        Expect.same("the failed command after the run", run.failedCommand(), 1);
        run.restore();
        Expect.same("the saved price", run.cupPrice(), 1.125);
    }

    /** Promise 62: Returns the number, 0 to 8. */
    private static void testCountFrom0To8() {
        for (int count = 0; count <= 20; count++) {
            Expect.same("undoableCount", withChanges(count).undoableCount(), Math.min(count, 8));
        }
        TeaHouse house = withChanges(8);
        for (int left = 7; left >= 0; left--) {
            house.undo();
            Expect.same("undoableCount", house.undoableCount(), left);
        }
    }

    /** Promise 63: Undoes the latest change that has not been undone. */
    private static void testChangesAmongUndone() {
        TeaHouse house = withChanges(8);
        house.undo();
        house.undo();
        house.setCupPrice(50);
        house.undo();
        Expect.same("the new one first", house.cupPrice(), 0.75);
        house.undo();
        Expect.same("then the sixth", house.cupPrice(), 0.625);
        for (int price = 60; price < 63; price++) {
            house.setCupPrice(price);
        }
        Expect.same("five old and three new", house.undoableCount(), 8);
        house.setCupPrice(63);
        Expect.same("four old and four new", house.undoableCount(), 8);
        for (int left = 7; left >= 0; left--) {
            Expect.same("undo", house.undo(), left);
        }
        Expect.same("the price after the first change", house.cupPrice(), 0.125);
    }

    /** Promise 63: Returns the number of changes that can still be undone. */
    private static void testStillUndoableFrom7To0() {
        for (int count = 1; count <= 8; count++) {
            Expect.same("undo", withChanges(count).undo(), count - 1);
        }
        Expect.same("of nine", withChanges(9).undo(), 7);
        Expect.same("of ninety", withChanges(80).undo(), 7);
    }

    /** Promise 63: Throws `IllegalStateException` if no change can be undone */
    private static void testNothingToUndo() {
        Expect.refused("at first", TeaHouse::new, NOT_NOW, house -> house.undo());
        Supplier<TeaHouse> undone = Houses.and(() -> withChanges(9), house -> {
            for (int i = 0; i < 8; i++) {
                house.undo();
            }
        });
        Expect.refused("the ninth", undone, NOT_NOW, house -> house.undo());
        Supplier<TeaHouse> refused = Houses.and(TeaHouse::new, house -> Houses.runInVain(house, "cup 1;cup 0"));
        Expect.refused("only refused calls", refused, NOT_NOW, house -> house.undo());
        Supplier<TeaHouse> restored = Houses.and(Houses::busy, house -> house.restore());
        Expect.refused("restored", restored, NOT_NOW, house -> house.undo());
    }

    /** Promise 64: Saves a copy of everything that changes can change, replacing an earlier copy. */
    private static void testTheCopyHoldsEverything() {
        changes().forEach((name, change) -> {
            Supplier<TeaHouse> made = Houses.and(Houses::busy, UndoEdgeTest::forgetChanges);
            Supplier<TeaHouse> restored = Houses.and(made, house -> {
                change.accept(house);
                house.restore();
            });
            Expect.same("the copy before " + name, Portrait.ofState(restored.get()), Portrait.ofState(made.get()));
            for (Probe probe : new Probe[] {Probe.LINES, Probe.NEXT_ORDER, Probe.ATTENDANT, Probe.PAST}) {
                Expect.same("the copy before " + name + ", " + probe, probe.answers(restored.get()),
                        probe.answers(made.get()));
            }
        });
        for (Supplier<TeaHouse> made : Edges.NEW_AND_BUSY) {
            TeaHouse house = made.get();
            house.save();
            house.setCupPrice(80);
            house.save();
            house.setCupPrice(79);
            house.restore();
            Expect.same("the later copy", house.cupPrice(), 10.0);
        }
        TeaHouse full = Houses.full();
        full.save();
        full.pass(120);
        full.cancel(4);
        full.restore();
        Expect.same("a full tea house", Portrait.ofState(full), Portrait.ofState(Houses.full()));
    }

    /** Promise 64: Returns the number of kettles. */
    private static void testSaveFrom0To4Kettles() {
        for (int count = 0; count <= 4; count++) {
            Expect.same("save", Houses.withKettles(count).save(), count);
        }
    }

    /** Promise 65: Restores the saved copy, which stays available. */
    private static void testTheCopyStaysAvailable() {
        TeaHouse house = Houses.busy();
        house.save();
        String saved = Portrait.ofState(house);
        for (int i = 0; i < 3; i++) {
            house.fill(0, 1);
            house.setCupPrice(80);
            house.cancel(2);
            house.restore();
            Expect.same("restored " + (i + 1) + " times", Portrait.ofState(house), saved);
        }
        house.restore();
        Expect.same("restored without a change", Portrait.ofState(house), saved);
    }

    /** Promise 65: No changes can be undone afterwards. */
    private static void testNothingCanBeUndoneAfterwards() {
        for (int count : new int[] {0, 1, 7, 8, 9}) {
            TeaHouse house = withChanges(count);
            house.save();
            Expect.same("save forgets no change", house.undoableCount(), Math.min(count, 8));
            house.restore();
            Expect.same("undoableCount", house.undoableCount(), 0);
            Expect.thrown("undo", NOT_NOW, house::undo);
            house.setCupPrice(80);
            Expect.same("a change since", house.undoableCount(), 1);
            house.undo();
            Expect.same("the restored price", house.cupPrice(), count == 0 ? 1.5 : count / 8.0);
            Expect.thrown("undo once more", NOT_NOW, house::undo);
        }
    }

    /** Promise 65: Returns the number of kettles. */
    private static void testRestoreFrom0To4Kettles() {
        for (int count = 0; count <= 4; count++) {
            TeaHouse house = Houses.withKettles(count);
            house.save();
            if (count < 4) {
                house.addKettle(2);
            }
            Expect.same("restore", house.restore(), count);
            Expect.same("kettleCount", house.kettleCount(), count);
        }
    }

    /** Promise 65: Throws `IllegalStateException` if there is no saved copy */
    private static void testNoSavedCopy() {
        Expect.refused("at first", TeaHouse::new, NOT_NOW, house -> house.restore());
        Expect.refused("full", Houses::full, NOT_NOW, house -> house.restore());
        TeaHouse house = withChanges(8);
        Expect.thrown("refused", NOT_NOW, house::restore);
        Expect.same("the changes can still be undone", house.undo(), 7);
        house.save();
        Expect.same("now there is one", house.restore(), 0);
    }
}
