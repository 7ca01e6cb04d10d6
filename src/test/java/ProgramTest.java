import java.util.NoSuchElementException;

/** Promises 58 to 61: the input buffer and its programs. */
public final class ProgramTest {
    public static void main(String[] args) {
        testAppend();
        testAppendRefused();
        testEveryCommand();
        testNumbers();
        testAttend();
        testMalformed();
        testFullBuffer();
        testMalformedLeavesTheHouse();
        testFailedCommand();
        testEveryReasonToFail();
        testErrorsAreKept();
        testOneChange();
        Expect.end();
    }

    private static void testAppend() {
        TeaHouse house = new TeaHouse();
        Expect.same("the first character", house.append(' '), 1);
        Expect.same("the second character", house.append('~'), 2);
        Expect.same("appending is no change", house.undoableCount(), 0);
        for (int length = 3; length <= 60; length++) {
            Expect.same("character " + length, house.append('x'), length);
        }
    }

    private static void testAppendRefused() {
        TeaHouse house = new TeaHouse();
        char[] strange = {(char) 31, (char) 127, (char) 0, '\n', (char) 200, (char) 0xffff, (char) 0x130};
        for (char character : strange) {
            Expect.thrown("character " + (int) character, IllegalArgumentException.class,
                    () -> house.append(character));
        }
        Expect.same("refused characters are not counted", house.append('c'), 1);
        Words.type(house, "x".repeat(59));
        Expect.thrown("a character too many", IllegalStateException.class, () -> house.append('x'));
        for (char character : strange) {
            Expect.thrown("character " + (int) character + " too many", IllegalArgumentException.class,
                    () -> house.append(character));
        }
    }

    private static void testEveryCommand() {
        TeaHouse house = new TeaHouse();
        Expect.same("commands", Words.run(house, "kettle 16;kettle 2;fill 0 16;burner 0 5"), 4);
        Expect.same("kettles", house.kettleCount(), 2);
        Expect.same("capacity", house.capacity(1), 0.5);
        Expect.same("volume", house.volume(0), 4.0);
        Expect.same("burner", house.burner(0), 5);
        Expect.same("commands", Words.run(house, "order 3 2 100 7;order 4 1 060 8;cancel 1;minutes 12"), 4);
        Expect.same("the order", Words.order(house, 0), "#0 t3 2x100 p7");
        Expect.same("waiting", house.waitingCount(), 1);
        Expect.same("temperature", house.temperature(0), 100.0);
        Expect.same("commands", Words.run(house, "serve;steam 3;wash 1;cup 80;litre 79;close;attend 0"), 7);
        Expect.same("served", house.servedOrders(), 1);
        Expect.same("steam", house.steam(), 0.25);
        Expect.same("clean cups", house.cleanCups(), 19);
        Expect.same("cup price", house.cupPrice(), 10.0);
        Expect.same("steam price", house.steamPrice(), 79.0);
        Expect.same("the night", house.nightIncome(0), 3.75);
        Expect.no("attendant", house.setAttendant(true));
        Expect.yes("balanced", house.isBalanced());
        Expect.same("one command", Words.run(house, "close"), 1);
        Expect.same("as many as the buffer holds",
                Words.run(house, "cup 1;cup 2;cup 3;cup 4;cup 5;cup 6;cup 7;cup 8;cup 9;cup 10"), 10);
        Expect.same("the last command counts", house.cupPrice(), 1.25);
    }

    private static void testNumbers() {
        TeaHouse house = new TeaHouse();
        Words.run(house, "kettle 002;cup 7");
        Expect.same("leading zeros", house.capacity(0), 0.5);
        Expect.same("one digit", house.cupPrice(), 0.875);
        Words.run(house, "cup 07;minutes 120");
        Expect.same("two digits", house.cupPrice(), 0.875);
        Words.run(house, "order 0 1 60 1");
        Expect.same("no number was lost", house.orderAt(0), 0);
    }

    private static void testAttend() {
        TeaHouse house = new TeaHouse();
        Words.run(house, "attend 0");
        Expect.no("0 means false", house.setAttendant(false));
        for (char digit = '1'; digit <= '9'; digit++) {
            Words.run(house, "attend 0;attend " + digit);
            Expect.yes(digit + " means true", house.setAttendant(false));
        }
    }

    private static void expectMalformed(String program, int position) {
        TeaHouse house = new TeaHouse();
        Words.type(house, program);
        Expect.thrown("'" + program + "'", IllegalArgumentException.class, house::run);
        Expect.same("the error position of '" + program + "'", house.errorPosition(), position);
        Expect.thrown("no command failed", NoSuchElementException.class, house::failedCommand);
        Expect.same("the buffer is empty after '" + program + "'", house.append('x'), 1);
        Expect.same("no change after '" + program + "'", house.undoableCount(), 0);
    }

    private static void testMalformed() {
        expectMalformed("", 0);
        String[] words = {"kettle ", "fill ", "burner ", "order ", "cancel ", "serve", "wash ", "steam ",
            "minutes ", "cup ", "litre ", "attend ", "close"};
        for (String word : words) {
            for (int length = 1; length < word.length(); length++) {
                expectMalformed(word.substring(0, length), length);
                expectMalformed(word.substring(0, length) + "~", length);
                expectMalformed(word.substring(0, length) + ";", length);
                expectMalformed("close;" + word.substring(0, length), 6 + length);
            }
            expectMalformed(word.toUpperCase(), 0);
            expectMalformed(word + "x", word.length());
        }
        String[][] parts = {{"kettle 1", "6"}, {"cup 12", "3"}, {"order 1 2 100", " 3"}};
        for (String[] part : parts) {
            expectMalformed(part[0] + "x" + part[1], part[0].length());
        }
        expectMalformed("kettle x", 7);
        expectMalformed("kettle -1", 7);
        expectMalformed("kettle  1", 7);
        expectMalformed("kettle 1234", 10);
        expectMalformed("kettle 16 ", 9);
        expectMalformed(" kettle 16", 0);
        expectMalformed("fill 10 4", 6);
        expectMalformed("fill 0", 6);
        expectMalformed("fill 0;", 6);
        expectMalformed("fill 0 ", 7);
        expectMalformed("burner 0 10", 10);
        expectMalformed("order 1 2 1000 1", 13);
        expectMalformed("order 1 2 60", 12);
        expectMalformed("order 1 2 60;", 12);
        expectMalformed("order 1 2 60 12", 14);
        expectMalformed("order 12", 7);
        expectMalformed("serve ", 5);
        expectMalformed("serve 1", 5);
        expectMalformed("attend 10", 8);
        expectMalformed("close;", 6);
        expectMalformed("close;;close", 6);
        expectMalformed(";close", 0);
        expectMalformed("close, close", 5);
        expectMalformed("closet", 5);
        expectMalformed("cup 1; cup 2", 6);
        expectMalformed("minutes/1", 7);
        expectMalformed("cup :", 4);
        expectMalformed("cup /", 4);
    }

    private static void testFullBuffer() {
        String ten = "cup 1;cup 2;cup 3;cup 4;cup 5;cup 6;cup 7;cup 8;cup 9;cup 0";
        expectMalformed(ten + ";", 60);
        expectMalformed("x".repeat(60), 0);
        expectMalformed(ten.substring(0, 54) + "kettle", 60);
        TeaHouse house = new TeaHouse();
        Words.type(house, "minutes 100;minutes 100;minutes 100;minutes 100;minutes 100;");
        Expect.thrown("60 characters that end too early", IllegalArgumentException.class, house::run);
        Expect.same("its error position", house.errorPosition(), 60);
        String sixty = "order 0 1 60 1;order 0 1 61 1;order 0 1 62 1;order 0 1 063 1";
        Expect.same("its length", sixty.length(), 60);
        Expect.same("60 characters", Words.run(house, sixty), 4);
    }

    private static void testMalformedLeavesTheHouse() {
        TeaHouse house = new TeaHouse();
        Words.run(house, "kettle 8;fill 0 4");
        String before = Portrait.ofState(house);
        Words.type(house, "fill 0 4;burner 0 5;minutes 3;servo");
        Expect.thrown("malformed at the end", IllegalArgumentException.class, house::run);
        Expect.same("no command was executed", Portrait.ofState(house), before);
        Expect.same("error position", house.errorPosition(), 34);
        Words.type(house, "serve;servo");
        Expect.thrown("malformed and failing", IllegalArgumentException.class, house::run);
        Expect.thrown("no command was tried", NoSuchElementException.class, house::failedCommand);
        Expect.same("one change as before", house.undoableCount(), 1);
    }

    private static void testFailedCommand() {
        TeaHouse house = new TeaHouse();
        Words.run(house, "kettle 8;fill 0 4;order 1 1 60 1");
        house.formatOrder(0);
        String before = Portrait.ofState(house);
        Words.type(house, "fill 0 4;burner 0 5;minutes 3;order 0 1 60 9;cup 9;serve");
        Expect.thrown("the last command fails", IllegalStateException.class, house::run);
        Expect.same("failedCommand", house.failedCommand(), 5);
        Expect.same("none was executed", Portrait.ofState(house), before);
        Expect.same("the line stays", Words.line(house), "#0 t1 1x60 p1");
        Expect.same("the buffer is empty", house.append('c'), 1);
        Expect.same("it is no change", house.undoableCount(), 1);
        Words.type(house, "lose");
        house.run();
        Expect.same("no number was taken", house.order(0, 1, 60, 1), 1);
        testFailedRunKeepsTheOldestChange();
    }

    private static void testFailedRunKeepsTheOldestChange() {
        TeaHouse house = new TeaHouse();
        for (int price = 1; price <= 9; price++) {
            house.setCupPrice(price);
        }
        Words.type(house, "cup 70;serve");
        Expect.thrown("serving nothing", IllegalStateException.class, house::run);
        Expect.same("undoable", house.undoableCount(), 8);
        for (int left = 7; left >= 0; left--) {
            Expect.same("undo", house.undo(), left);
        }
        Expect.same("the price after the first change", house.cupPrice(), 0.125);
    }

    private static void expectFailure(String program, int command) {
        TeaHouse house = new TeaHouse();
        Words.type(house, program);
        Expect.thrown("'" + program + "'", IllegalStateException.class, house::run);
        Expect.same("the failed command of '" + program + "'", house.failedCommand(), command);
        Expect.thrown("'" + program + "' is not malformed", NoSuchElementException.class, house::errorPosition);
        Expect.same("kettles after '" + program + "'", house.kettleCount(), 0);
    }

    private static void testEveryReasonToFail() {
        expectFailure("kettle 1", 0);
        expectFailure("kettle 17", 0);
        expectFailure("kettle 2;kettle 2;kettle 2;kettle 2;kettle 2", 4);
        expectFailure("fill 0 1", 0);
        expectFailure("kettle 2;fill 1 1", 1);
        expectFailure("kettle 2;fill 0 0", 1);
        expectFailure("kettle 2;fill 0 17", 1);
        expectFailure("kettle 2;fill 0 2;fill 0 1", 2);
        expectFailure("burner 0 1", 0);
        expectFailure("kettle 2;burner 0 6", 1);
        expectFailure("order 0 0 60 1", 0);
        expectFailure("order 0 7 60 1", 0);
        expectFailure("order 0 1 59 1", 0);
        expectFailure("order 0 1 101 1", 0);
        expectFailure("order 0 1 60 0", 0);
        expectFailure("cancel 0", 0);
        expectFailure("order 0 1 60 1;cancel 1", 1);
        expectFailure("serve", 0);
        expectFailure("wash 0", 0);
        expectFailure("wash 1", 0);
        expectFailure("wash 21", 0);
        expectFailure("steam 0", 0);
        expectFailure("steam 1", 0);
        expectFailure("steam 81", 0);
        expectFailure("minutes 0", 0);
        expectFailure("minutes 121", 0);
        expectFailure("cup 0", 0);
        expectFailure("cup 81", 0);
        expectFailure("litre 0", 0);
        expectFailure("litre 81", 0);
        TeaHouse house = new TeaHouse();
        Words.run(house, "close;close;close;close;close;close;close;close");
        Words.type(house, "close;close;close;close;close;close;close;close");
        Expect.thrown("a fifteenth night", IllegalStateException.class, house::run);
        Expect.same("the seventh of these", house.failedCommand(), 6);
        Expect.same("nights", house.nightCount(), 8);
        for (int i = 0; i < 10; i++) {
            house.order(0, 1, 60, 1);
        }
        Words.type(house, "order 0 1 60 1");
        Expect.thrown("an eleventh order", IllegalStateException.class, house::run);
        Expect.same("the first of one", house.failedCommand(), 0);
    }

    private static void testErrorsAreKept() {
        TeaHouse house = new TeaHouse();
        Class<NoSuchElementException> none = NoSuchElementException.class;
        Expect.thrown("no error position", none, house::errorPosition);
        Expect.thrown("no failed command", none, house::failedCommand);
        Words.run(house, "close");
        Expect.thrown("still no error position", none, house::errorPosition);
        Expect.thrown("still no failed command", none, house::failedCommand);
        Words.type(house, "close!");
        Expect.thrown("malformed", IllegalArgumentException.class, house::run);
        Words.type(house, "close;serve");
        Expect.thrown("failed", IllegalStateException.class, house::run);
        Words.run(house, "close");
        Expect.same("the error position stays", house.errorPosition(), 5);
        Expect.same("the failed command stays", house.failedCommand(), 1);
        Words.type(house, "cup");
        Expect.thrown("malformed again", IllegalArgumentException.class, house::run);
        Expect.same("the latest error position", house.errorPosition(), 3);
        Words.type(house, "serve");
        Expect.thrown("failed again", IllegalStateException.class, house::run);
        Expect.same("the latest failed command", house.failedCommand(), 0);
    }

    private static void testOneChange() {
        TeaHouse house = new TeaHouse();
        String before = Portrait.ofState(house);
        Words.run(house, "kettle 8;fill 0 4;burner 0 5;order 1 1 60 1;close;cup 9");
        Expect.same("a run is one change", house.undoableCount(), 1);
        Expect.same("undone at once", house.undo(), 0);
        Expect.same("as before", Portrait.ofState(house), before);
    }
}
