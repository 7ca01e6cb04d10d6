import java.util.ArrayList;
import java.util.List;
import java.util.function.Consumer;

/** Promises 62 to 65: undo, save and restore. */
public final class UndoTest {
    /** Programs that change every part of what changes can change. */
    private static final String[] STEPS = {
        "kettle 16;kettle 4", "fill 0 16;fill 1 4", "burner 0 5;burner 1 1", "order 1 2 60 5;order 2 6 100 9",
        "minutes 12", "serve", "steam 2", "close", "wash 2", "attend 0;cup 41", "cup 40;litre 50",
        "burner 0 0;minutes 1;burner 0 3;minutes 1", "serve;steam 1;order 7 1 70 2;cancel 2", "close;close",
    };

    public static void main(String[] args) {
        testEveryMethodIsAChange();
        testUndoEveryStep();
        testEightChanges();
        testChangesAfterUndo();
        testNothingToUndo();
        testQuestionsAreNoChanges();
        testUndoLeavesTheRest();
        testSaveAndRestore();
        testRestoreEveryStep();
        testRestoreLeavesTheRest();
        testNothingToRestore();
        Expect.end();
    }

    private static void testEveryMethodIsAChange() {
        List<Consumer<TeaHouse>> calls = new ArrayList<>();
        expectOneChange("addKettle", calls, house -> house.addKettle(16));
        expectOneChange("fill", calls, house -> house.fill(0, 16));
        expectOneChange("setBurner", calls, house -> house.setBurner(0, 5));
        expectOneChange("the same setBurner", calls, house -> house.setBurner(0, 5));
        expectOneChange("order", calls, house -> house.order(1, 2, 60, 3));
        expectOneChange("another order", calls, house -> house.order(1, 2, 60, 4));
        expectOneChange("cancel", calls, house -> house.cancel(0));
        expectOneChange("pass", calls, house -> house.pass(12));
        expectOneChange("serveNext", calls, house -> house.serveNext());
        expectOneChange("wash", calls, house -> house.wash(1));
        expectOneChange("sellSteam", calls, house -> house.sellSteam(1));
        expectOneChange("setCupPrice", calls, house -> house.setCupPrice(7));
        expectOneChange("the same setCupPrice", calls, house -> house.setCupPrice(7));
        expectOneChange("setSteamPrice", calls, house -> house.setSteamPrice(7));
        expectOneChange("the same setSteamPrice", calls, house -> house.setSteamPrice(7));
        expectOneChange("setAttendant", calls, house -> house.setAttendant(false));
        expectOneChange("the same setAttendant", calls, house -> house.setAttendant(false));
        expectOneChange("closeNight", calls, house -> house.closeNight());
        expectOneChange("run", calls, house -> Words.run(house, "minutes 3;steam 1;attend 1"));
        expectOneChange("run without an effect", calls, house -> Words.run(house, "attend 1"));
    }

    /** The call comes after the earlier ones, on a new tea house, and joins them. */
    private static void expectOneChange(String what, List<Consumer<TeaHouse>> earlier, Consumer<TeaHouse> call) {
        TeaHouse house = new TeaHouse();
        for (Consumer<TeaHouse> made : earlier) {
            made.accept(house);
        }
        house.save();
        house.restore();
        Expect.same("nothing to undo before " + what, house.undoableCount(), 0);
        String before = Portrait.ofState(house);
        call.accept(house);
        Expect.same(what + " is a change", house.undoableCount(), 1);
        house.undo();
        Expect.same(what + " undone", Portrait.ofState(house), before);
        earlier.add(call);
    }

    private static TeaHouse afterSteps(int count) {
        TeaHouse house = new TeaHouse();
        for (int i = 0; i < count; i++) {
            Words.run(house, STEPS[i]);
        }
        return house;
    }

    private static void testUndoEveryStep() {
        for (int i = 0; i < STEPS.length; i++) {
            String before = Portrait.ofState(afterSteps(i));
            TeaHouse house = afterSteps(i + 1);
            Expect.no(STEPS[i] + " has an effect", before.equals(Portrait.ofState(house)));
            house.undo();
            Expect.same("before '" + STEPS[i] + "'", Portrait.ofState(house), before);
        }
        for (int undone = 1; undone <= 8; undone++) {
            TeaHouse house = afterSteps(STEPS.length);
            for (int i = 0; i < undone; i++) {
                house.undo();
            }
            String before = Portrait.ofState(afterSteps(STEPS.length - undone));
            Expect.same(undone + " steps undone", Portrait.ofState(house), before);
        }
        TeaHouse house = afterSteps(STEPS.length);
        for (int i = 0; i < 8; i++) {
            house.undo();
        }
        Expect.thrown("the others can't be undone", IllegalStateException.class, house::undo);
        testUndoTheAttendant();
    }

    private static void testUndoTheAttendant() {
        TeaHouse house = new TeaHouse();
        house.setAttendant(false);
        house.undo();
        Expect.yes("the attendant is back", house.setAttendant(true));
    }

    private static void testEightChanges() {
        TeaHouse house = new TeaHouse();
        for (int price = 1; price <= 20; price++) {
            house.setCupPrice(price);
            Expect.same("undoable after " + price, house.undoableCount(), Math.min(price, 8));
        }
        for (int left = 7; left >= 0; left--) {
            Expect.same("undo", house.undo(), left);
            Expect.same("undoable", house.undoableCount(), left);
            Expect.same("cup price", house.cupPrice(), (12 + left) / 8.0);
        }
        Expect.thrown("a ninth undo", IllegalStateException.class, house::undo);
    }

    private static void testChangesAfterUndo() {
        TeaHouse house = new TeaHouse();
        for (int price = 1; price <= 10; price++) {
            house.setCupPrice(price);
        }
        house.undo();
        house.undo();
        Expect.same("two undone", house.cupPrice(), 1.0);
        house.setCupPrice(50);
        Expect.same("undoable", house.undoableCount(), 7);
        Expect.same("undo the new one", house.undo(), 6);
        Expect.same("the price before it", house.cupPrice(), 1.0);
        Expect.same("undo the older one", house.undo(), 5);
        Expect.same("the price before that", house.cupPrice(), 0.875);
        for (int price = 60; price <= 70; price++) {
            house.setCupPrice(price);
        }
        for (int left = 7; left >= 0; left--) {
            Expect.same("undo", house.undo(), left);
        }
        Expect.same("eight of eleven are undone", house.cupPrice(), 62 / 8.0);
    }

    private static void testNothingToUndo() {
        TeaHouse house = new TeaHouse();
        Expect.thrown("a new house", IllegalStateException.class, house::undo);
        Expect.thrown("a refused call", IllegalArgumentException.class, () -> house.addKettle(1));
        Expect.thrown("a refused call is no change", IllegalStateException.class, house::undo);
    }

    private static void testQuestionsAreNoChanges() {
        TeaHouse house = new TeaHouse();
        Words.run(house, "kettle 8;fill 0 8;burner 0 5;order 1 1 60 1");
        Portrait.of(house);
        house.formatKettle(0);
        house.formatOrder(0);
        house.formatLedger();
        house.append('c');
        house.save();
        Expect.same("one change", house.undoableCount(), 1);
        Expect.same("undo it", house.undo(), 0);
        Expect.same("kettles", house.kettleCount(), 0);
    }

    private static void disturb(TeaHouse house) {
        Words.type(house, "close!");
        Expect.thrown("malformed", IllegalArgumentException.class, house::run);
        Words.type(house, "cup 7;serve");
        Expect.thrown("failed", IllegalStateException.class, house::run);
        house.formatKettle(0);
        Words.type(house, "close");
    }

    private static void expectDisturbed(String what, TeaHouse house) {
        Expect.same("the error position after " + what, house.errorPosition(), 5);
        Expect.same("the failed command after " + what, house.failedCommand(), 1);
        Expect.same("the line after " + what, Words.line(house), "K0 0/16 40h");
        Expect.same("the buffer after " + what, house.append(';'), 6);
    }

    private static void testUndoLeavesTheRest() {
        TeaHouse house = new TeaHouse();
        house.addKettle(8);
        disturb(house);
        house.undo();
        expectDisturbed("undo", house);
        house.addKettle(8);
        house.save();
        house.undo();
        Expect.same("the saved copy stays", house.restore(), 1);
    }

    private static void testSaveAndRestore() {
        TeaHouse house = new TeaHouse();
        Expect.same("save without kettles", house.save(), 0);
        house.addKettle(8);
        house.addKettle(8);
        Expect.same("restore", house.restore(), 0);
        Expect.same("kettles", house.kettleCount(), 0);
        Expect.same("nothing can be undone", house.undoableCount(), 0);
        Expect.thrown("undo", IllegalStateException.class, house::undo);
        house.addKettle(8);
        Expect.same("the new change can be undone", house.undoableCount(), 1);
        Expect.same("restore again", house.restore(), 0);
        house.addKettle(4);
        Expect.same("save one kettle", house.save(), 1);
        Expect.same("saving forgets no change", house.undoableCount(), 1);
        house.addKettle(5);
        Expect.same("restore the later copy", house.restore(), 1);
        Expect.same("its kettle", house.capacity(0), 1.0);
        house.fill(0, 1);
        house.restore();
        Expect.same("a change does not touch the copy", house.volume(0), 0.0);
    }

    private static void testRestoreEveryStep() {
        for (int i = 0; i < STEPS.length; i++) {
            TeaHouse house = afterSteps(i);
            house.save();
            Words.run(house, STEPS[i]);
            house.restore();
            Expect.same("restored before '" + STEPS[i] + "'", Portrait.ofState(house),
                    Portrait.ofState(afterSteps(i)));
            Words.run(house, STEPS[i]);
            Expect.same("'" + STEPS[i] + "' once more", Portrait.ofState(house),
                    Portrait.ofState(afterSteps(i + 1)));
        }
        TeaHouse house = new TeaHouse();
        house.setAttendant(true);
        house.save();
        house.setAttendant(false);
        house.restore();
        Expect.yes("the attendant is back", house.setAttendant(true));
    }

    private static void testRestoreLeavesTheRest() {
        TeaHouse house = new TeaHouse();
        house.addKettle(8);
        house.save();
        disturb(house);
        house.restore();
        expectDisturbed("restore", house);
    }

    private static void testNothingToRestore() {
        TeaHouse house = new TeaHouse();
        house.addKettle(8);
        Expect.thrown("no saved copy", IllegalStateException.class, house::restore);
        Expect.same("the change can still be undone", house.undoableCount(), 1);
    }
}
