/** Promises 62 to 65: undo, save and restore. */
public final class UndoTest {
    /** Programs that change every part of what changes can change. */
    private static final String[] STEPS = {
        "kettle 16;kettle 4", "fill 0 16;fill 1 4", "burner 0 5;burner 1 1", "order 1 2 60 5;order 2 6 100 9",
        "minutes 12", "serve", "steam 2", "close", "wash 2", "attend 0;cup 41", "cup 40;litre 50",
        "burner 0 0;minutes 1;burner 0 3;minutes 1", "serve;steam 1;order 7 1 70 2;cancel 2", "close;close",
    };

    public static void main(String[] args) {
        testEveryMethodIsAChange();
        testUndoEveryStep();
        testEightChanges();
        testChangesAfterUndo();
        testNothingToUndo();
        testQuestionsAreNoChanges();
        testUndoLeavesTheRest();
        testSaveAndRestore();
        testRestoreEveryStep();
        testRestoreLeavesTheRest();
        testNothingToRestore();
        Expect.end();
    }

    private static void expectOneChange(String what, TeaHouse house, Expect.Call call) {
        for (int left = house.undoableCount(); left > 0; left--) {
            house.undo();
        }
        Expect.same("nothing to undo before " + what, house.undoableCount(), 0);
        String before = Portrait.ofState(house);
        call.make();
        Expect.same(what + " is a change", house.undoableCount(), 1);
        house.undo();
        Expect.same(what + " undone", Portrait.ofState(house), before);
        call.make();
        house.save();
        house.restore();
    }

    private static void testEveryMethodIsAChange() {
        TeaHouse house = new TeaHouse();
        expectOneChange("addKettle", house, () -> house.addKettle(16));
        expectOneChange("fill", house, () -> house.fill(0, 16));
        expectOneChange("setBurner", house, () -> house.setBurner(0, 5));
        expectOneChange("the same setBurner", house, () -> house.setBurner(0, 5));
        expectOneChange("order", house, () -> house.order(1, 2, 60, 3));
        expectOneChange("another order", house, () -> house.order(1, 2, 60, 4));
        expectOneChange("cancel", house, () -> house.cancel(0));
        expectOneChange("pass", house, () -> house.pass(12));
        expectOneChange("serveNext", house, () -> house.serveNext());
        expectOneChange("wash", house, () -> house.wash(1));
        expectOneChange("sellSteam", house, () -> house.sellSteam(1));
        expectOneChange("setCupPrice", house, () -> house.setCupPrice(7));
        expectOneChange("the same setCupPrice", house, () -> house.setCupPrice(7));
        expectOneChange("setSteamPrice", house, () -> house.setSteamPrice(7));
        expectOneChange("the same setSteamPrice", house, () -> house.setSteamPrice(7));
        expectOneChange("setAttendant", house, () -> house.setAttendant(false));
        expectOneChange("the same setAttendant", house, () -> house.setAttendant(false));
        expectOneChange("closeNight", house, () -> house.closeNight());
        expectOneChange("run", house, () -> Words.run(house, "minutes 3;steam 1;attend 1"));
        expectOneChange("run without an effect", house, () -> Words.run(house, "attend 1"));
    }

    private static void testUndoEveryStep() {
        TeaHouse house = new TeaHouse();
        String[] before = new String[STEPS.length];
        for (int i = 0; i < STEPS.length; i++) {
            before[i] = Portrait.ofState(house);
            Words.run(house, STEPS[i]);
            Expect.no(STEPS[i] + " has an effect", before[i].equals(Portrait.ofState(house)));
        }
        for (int i = STEPS.length - 1; i >= STEPS.length - 8; i--) {
            house.undo();
            Expect.same("before '" + STEPS[i] + "'", Portrait.ofState(house), before[i]);
        }
        Expect.thrown("the others can't be undone", IllegalStateException.class, house::undo);
        testUndoTheAttendant();
    }

    private static void testUndoTheAttendant() {
        TeaHouse house = new TeaHouse();
        house.setAttendant(false);
        house.undo();
        Expect.yes("the attendant is back", house.setAttendant(true));
    }

    private static void testEightChanges() {
        TeaHouse house = new TeaHouse();
        for (int price = 1; price <= 20; price++) {
            house.setCupPrice(price);
            Expect.same("undoable after " + price, house.undoableCount(), Math.min(price, 8));
        }
        for (int left = 7; left >= 0; left--) {
            Expect.same("undo", house.undo(), left);
            Expect.same("undoable", house.undoableCount(), left);
            Expect.same("cup price", house.cupPrice(), (12 + left) / 8.0);
        }
        Expect.refused("a ninth undo", house, IllegalStateException.class, house::undo);
    }

    private static void testChangesAfterUndo() {
        TeaHouse house = new TeaHouse();
        for (int price = 1; price <= 10; price++) {
            house.setCupPrice(price);
        }
        house.undo();
        house.undo();
        Expect.same("two undone", house.cupPrice(), 1.0);
        house.setCupPrice(50);
        Expect.same("undoable", house.undoableCount(), 7);
        Expect.same("undo the new one", house.undo(), 6);
        Expect.same("the price before it", house.cupPrice(), 1.0);
        Expect.same("undo the older one", house.undo(), 5);
        Expect.same("the price before that", house.cupPrice(), 0.875);
        for (int price = 60; price <= 70; price++) {
            house.setCupPrice(price);
        }
        for (int left = 7; left >= 0; left--) {
            Expect.same("undo", house.undo(), left);
        }
        Expect.same("eight of eleven are undone", house.cupPrice(), 62 / 8.0);
    }

    private static void testNothingToUndo() {
        TeaHouse house = new TeaHouse();
        Expect.refused("a new house", house, IllegalStateException.class, house::undo);
        Expect.thrown("a refused call", IllegalArgumentException.class, () -> house.addKettle(1));
        Expect.refused("a refused call is no change", house, IllegalStateException.class, house::undo);
    }

    private static void testQuestionsAreNoChanges() {
        TeaHouse house = new TeaHouse();
        Words.run(house, "kettle 8;fill 0 8;burner 0 5;order 1 1 60 1");
        Portrait.of(house);
        house.formatKettle(0);
        house.formatOrder(0);
        house.formatLedger();
        house.append('c');
        house.save();
        Expect.same("one change", house.undoableCount(), 1);
        Expect.same("undo it", house.undo(), 0);
        Expect.same("kettles", house.kettleCount(), 0);
    }

    private static void disturb(TeaHouse house) {
        Words.type(house, "close!");
        Expect.thrown("malformed", IllegalArgumentException.class, house::run);
        Words.type(house, "cup 7;serve");
        Expect.thrown("failed", IllegalStateException.class, house::run);
        house.formatKettle(0);
        Words.type(house, "close");
    }

    private static void expectDisturbed(String what, TeaHouse house) {
        Expect.same("the error position after " + what, house.errorPosition(), 5);
        Expect.same("the failed command after " + what, house.failedCommand(), 1);
        Expect.same("the line after " + what, Words.line(house), "K0 0/16 40h");
        Expect.same("the buffer after " + what, house.append(';'), 6);
    }

    private static void testUndoLeavesTheRest() {
        TeaHouse house = new TeaHouse();
        house.addKettle(8);
        disturb(house);
        house.undo();
        expectDisturbed("undo", house);
        house.addKettle(8);
        house.save();
        house.undo();
        Expect.same("the saved copy stays", house.restore(), 1);
    }

    private static void testSaveAndRestore() {
        TeaHouse house = new TeaHouse();
        Expect.same("save without kettles", house.save(), 0);
        house.addKettle(8);
        house.addKettle(8);
        Expect.same("restore", house.restore(), 0);
        Expect.same("kettles", house.kettleCount(), 0);
        Expect.same("nothing can be undone", house.undoableCount(), 0);
        Expect.refused("undo", house, IllegalStateException.class, house::undo);
        house.addKettle(8);
        Expect.same("the new change can be undone", house.undoableCount(), 1);
        Expect.same("restore again", house.restore(), 0);
        house.addKettle(4);
        Expect.same("save one kettle", house.save(), 1);
        Expect.same("saving forgets no change", house.undoableCount(), 1);
        house.addKettle(5);
        Expect.same("restore the later copy", house.restore(), 1);
        Expect.same("its kettle", house.capacity(0), 1.0);
        house.fill(0, 1);
        house.restore();
        Expect.same("a change does not touch the copy", house.volume(0), 0.0);
    }

    private static void testRestoreEveryStep() {
        TeaHouse house = new TeaHouse();
        for (String step : STEPS) {
            String before = Portrait.ofState(house);
            house.save();
            Words.run(house, step);
            String after = Portrait.ofState(house);
            house.restore();
            Expect.same("restored before '" + step + "'", Portrait.ofState(house), before);
            Words.run(house, step);
            Expect.same("'" + step + "' once more", Portrait.ofState(house), after);
        }
        house.setAttendant(true);
        house.save();
        house.setAttendant(false);
        house.restore();
        Expect.yes("the attendant is back", house.setAttendant(true));
    }

    private static void testRestoreLeavesTheRest() {
        TeaHouse house = new TeaHouse();
        house.addKettle(8);
        house.save();
        disturb(house);
        house.restore();
        expectDisturbed("restore", house);
    }

    private static void testNothingToRestore() {
        TeaHouse house = new TeaHouse();
        house.addKettle(8);
        Expect.refused("no saved copy", house, IllegalStateException.class, house::restore);
        Expect.same("the change can still be undone", house.undoableCount(), 1);
    }
}
