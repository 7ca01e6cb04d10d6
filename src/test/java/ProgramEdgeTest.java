import java.util.List;
import java.util.NoSuchElementException;
import java.util.function.Supplier;

/** The boundaries of promises 58 to 61 and of what the terms say about commands. */
public final class ProgramEdgeTest {
    private static final Class<IllegalArgumentException> MALFORMED = IllegalArgumentException.class;
    private static final Class<IllegalStateException> FAILED = IllegalStateException.class;
    private static final Class<NoSuchElementException> NO_ELEMENT = NoSuchElementException.class;
    private static final String TEN_COMMANDS = "cup 1;cup 2;cup 3;cup 4;cup 5;cup 6;cup 7;cup 8;cup 9;cup 7";

    public static void main(String[] args) {
        Expect.allOf(ProgramEdgeTest.class);
    }

    private static void expectMalformed(String program, int position) {
        TeaHouse house = Houses.withText(program);
        Expect.thrown("'" + program + "'", MALFORMED, house::run);
        Expect.same("the error position of '" + program + "'", house.errorPosition(), position);
    }

    /** Every argument of these is in the grammar; whether the tea house does what they say is another matter. */
    private static void expectWellFormed(String program) {
        TeaHouse house = Houses.withText(program);
        Expect.no("'" + program + "' is malformed", Probe.answer(house::run).equals("IllegalArgumentException"));
        Expect.thrown("'" + program + "' has no error position", NO_ELEMENT, house::errorPosition);
    }

    private static void expectFailure(TeaHouse house, String program, int command) {
        Words.type(house, program);
        Expect.thrown("'" + program + "'", FAILED, house::run);
        Expect.same("the failed command of '" + program + "'", house.failedCommand(), command);
    }

    /** Terms: The input buffer holds up to 60 characters. */
    private static void testSixtyCharacters() {
        TeaHouse house = Houses.withText("x".repeat(59));
        Expect.same("the sixtieth", house.append('x'), 60);
        Expect.thrown("the sixty-first", FAILED, () -> house.append('x'));
        Expect.thrown("malformed", MALFORMED, house::run);
        Words.type(house, TEN_COMMANDS);
        Expect.same("fifty-nine", house.append('7'), 60);
        Expect.same("all sixty are read", house.run(), 10);
        Expect.same("the last of them too", house.cupPrice(), 77 / 8.0);
    }

    /**
     * Terms: A program in the input buffer has this grammar, where { x } means zero or more repetitions of x and a
     * vertical bar separates alternatives:
     */
    private static void testOneCommandAndTen() {
        Expect.same("no repetition", Words.run(new TeaHouse(), "close"), 1);
        Expect.same("one repetition", Words.run(new TeaHouse(), "close;close"), 2);
        Expect.same("nine repetitions", Words.run(new TeaHouse(), TEN_COMMANDS), 10);
    }

    /** Terms: program = command { ";" command } */
    private static void testCommandsAndSemicolons() {
        expectMalformed("", 0);
        expectMalformed(";", 0);
        expectMalformed(";close", 0);
        expectMalformed("close;", 6);
        expectMalformed("close;;close", 6);
        expectMalformed("close close", 5);
        expectMalformed("close; close", 6);
        expectMalformed("close ;close", 5);
        expectMalformed("closeclose", 5);
        expectMalformed(TEN_COMMANDS + ";", 60);
        expectWellFormed("close;close");
    }

    /**
     * Terms: command = "kettle " number | "fill " digit " " number | "burner " digit " " digit | "order " digit " "
     * digit " " number " " digit | "cancel " number | "serve" | "wash " number | "steam " number | "minutes " number
     * | "cup " number | "litre " number | "attend " digit | "close"
     */
    private static void testShortestAndLongestCommands() {
        String[] kinds = {"kettle n", "fill d n", "burner d d", "order d d n d", "cancel n", "serve", "wash n",
            "steam n", "minutes n", "cup n", "litre n", "attend d", "close"};
        for (String kind : kinds) {
            String shortest = kind.replaceAll("\\bn\\b", "0").replaceAll("\\bd\\b", "0");
            String longest = kind.replaceAll("\\bn\\b", "999").replaceAll("\\bd\\b", "9");
            expectWellFormed(shortest);
            expectWellFormed(longest);
            for (int length = 0; length < shortest.length(); length++) {
                expectMalformed(shortest.substring(0, length), length);
            }
            String[] words = longest.split(" ");
            for (int i = 1; i < words.length; i++) {
                expectOneDigitMore(longest, words, i);
            }
            expectMalformed(longest + " ", longest.length());
            expectMalformed(longest + " 1", longest.length());
            expectMalformed(kind.toUpperCase(), 0);
        }
        expectMalformed("fill 00 1", 6);
        expectMalformed("burner 0 00", 10);
        expectMalformed("attend 00", 8);
    }

    private static void expectOneDigitMore(String command, String[] words, int which) {
        int start = words[0].length();
        for (int i = 1; i <= which; i++) {
            start += 1 + words[i].length();
        }
        expectMalformed(command.substring(0, start) + "9" + command.substring(start), start);
    }

    /** Terms: number = digit | digit digit | digit digit digit */
    private static void testOneDigitAndThree() {
        for (String number : new String[] {"9", "09", "009"}) {
            TeaHouse house = new TeaHouse();
            Words.run(house, "cup " + number);
            Expect.same("cup " + number, house.cupPrice(), 1.125);
        }
        expectMalformed("cup ", 4);
        expectMalformed("cup 0009", 7);
        expectMalformed("cup ;cup 1", 4);
        expectMalformed("cup 1x", 5);
        expectMalformed("cup 12x", 6);
        expectMalformed("cup 123x", 7);
        expectMalformed("cup /", 4);
        expectMalformed("cup :", 4);
        expectMalformed("cup -", 4);
        expectMalformed("cup +1", 4);
        for (String number : new String[] {"0", "00", "000", "999"}) {
            expectFailure(new TeaHouse(), "cup " + number, 0);
            expectFailure(new TeaHouse(), "cancel " + number, 0);
        }
        TeaHouse longest = new TeaHouse();
        Expect.same("120 minutes", Words.run(longest, "kettle 016;fill 0 016;burner 0 1;minutes 120"), 4);
        Expect.same("after 120 minutes", longest.boiledTotal(), 4.0);
    }

    /**
     * Terms: The commands correspond to the methods addKettle, fill, setBurner, order, cancel, serveNext, wash,
     * sellSteam, pass, setCupPrice, setSteamPrice, setAttendant and closeNight, with the arguments in the same order;
     * after attend, the digit 0 means false and any other digit means true.
     */
    private static void testEachCommandIsItsMethod() {
        TeaHouse commands = Houses.after("kettle 16;kettle 2;fill 1 2;fill 0 16;burner 1 1;burner 0 5",
                "order 9 6 100 1;order 8 5 99 9;cancel 0;minutes 120;cup 80", "fill 0 16;minutes 12;serve;wash 4",
                "steam 32;litre 79;attend 0;close;order 1 2 60 3");
        TeaHouse methods = new TeaHouse();
        methods.addKettle(16);
        methods.addKettle(2);
        methods.fill(1, 2);
        methods.fill(0, 16);
        methods.setBurner(1, 1);
        methods.setBurner(0, 5);
        methods.order(9, 6, 100, 1);
        methods.order(8, 5, 99, 9);
        methods.cancel(0);
        methods.pass(120);
        methods.setCupPrice(80);
        methods.fill(0, 16);
        methods.pass(12);
        methods.serveNext();
        methods.wash(4);
        methods.sellSteam(32);
        methods.setSteamPrice(79);
        methods.setAttendant(false);
        methods.closeNight();
        methods.order(1, 2, 60, 3);
        Expect.same("the tea house", Portrait.ofState(commands), Portrait.ofState(methods));
        Expect.same("its lines", Probe.LINES.answers(commands), Probe.LINES.answers(methods));
        Expect.no("attend 0", commands.setAttendant(false));
        for (char digit = '0'; digit <= '9'; digit++) {
            TeaHouse house = new TeaHouse();
            house.setAttendant(digit == '0');
            Words.run(house, "attend " + digit);
            Expect.same("attend " + digit, String.valueOf(house.setAttendant(true)), String.valueOf(digit != '0'));
        }
    }

    /**
     * Terms: The error position of a malformed program is the index of the first character that no valid program can
     * have there after the characters before it, or the length of the program if it is a proper prefix of a valid
     * program.
     */
    private static void testErrorPositionsFrom0To60() {
        expectMalformed("", 0);
        expectMalformed("x", 0);
        expectMalformed("~".repeat(60), 0);
        expectMalformed("c", 1);
        expectMalformed("cup", 3);
        expectMalformed("cup ", 4);
        expectMalformed("cup 1;", 6);
        expectMalformed("cup 1;x", 6);
        expectMalformed("cup 1 ;x", 5);
        expectMalformed("xcup 1;y", 0);
        expectMalformed(TEN_COMMANDS + "x", 59);
        expectMalformed(TEN_COMMANDS + ";", 60);
        expectMalformed(TEN_COMMANDS.substring(0, 53) + ";order ", 60);
        expectMalformed(TEN_COMMANDS.substring(0, 53) + ";order!", 59);
        expectMalformed(TEN_COMMANDS.substring(0, 53) + ";minute", 60);
        expectMalformed(TEN_COMMANDS.substring(0, 53) + ";kettle", 60);
        expectMalformed(TEN_COMMANDS.substring(0, 53) + ";burner", 60);
    }

    /** Terms: Keywords are matched letter by letter. */
    private static void testLetterByLetter() {
        String[] keywords = {"kettle", "fill", "burner", "order", "cancel", "serve", "wash", "steam", "minutes", "cup",
            "litre", "attend", "close"};
        for (String keyword : keywords) {
            for (int length = 0; length < keyword.length(); length++) {
                expectMalformed(keyword.substring(0, length), length);
                expectMalformed(keyword.substring(0, length) + "z", length);
                expectMalformed(keyword.substring(0, length) + " ", length);
                expectMalformed("serve;" + keyword.substring(0, length) + "Z", 6 + length);
            }
            expectMalformed(keyword + "s", keyword.length());
        }
        expectMalformed("ceam", 1);
        expectMalformed("cap", 2);
        expectMalformed("cuncel", 2);
        expectMalformed("clup", 2);
        expectMalformed("sterve", 3);
        expectMalformed("seam", 2);
        expectMalformed("closerve", 5);
    }

    /** Promise 58: Returns the number of characters in the buffer. */
    private static void testLengthsFrom1To60() {
        TeaHouse house = new TeaHouse();
        for (int length = 1; length <= 60; length++) {
            Expect.same("append", house.append('c'), length);
        }
        Expect.thrown("malformed", MALFORMED, house::run);
        Expect.same("append to the emptied buffer", house.append('c'), 1);
    }

    /** Promise 58: `character`: the character */
    private static void testEveryCharacterOfTheRange() {
        TeaHouse house = new TeaHouse();
        int length = 0;
        for (char character = ' '; character <= '~'; character++) {
            if (length == 60) {
                Houses.runInVain(house, "");
                length = 0;
            }
            length++;
            Expect.same("append " + character, house.append(character), length);
        }
        TeaHouse program = new TeaHouse();
        Expect.same("appended at the end", Words.run(program, "cup 12"), 1);
        Expect.same("in this order", program.cupPrice(), 1.5);
    }

    /** Promise 58: Throws `IllegalArgumentException` if the character is not in the range from ' ' to '~' */
    private static void testCharactersNextToTheRange() {
        for (Supplier<TeaHouse> made : List.<Supplier<TeaHouse>>of(TeaHouse::new, Houses::busy, Houses::full)) {
            for (char character : new char[] {0, 9, 10, 13, 31, 127, 128, 160, 255, 256, 0x7fff, 0x8000, 0xffff}) {
                Expect.refused("append " + (int) character, made, IllegalArgumentException.class,
                        house -> house.append(character));
            }
        }
        Expect.same("the first of the range", new TeaHouse().append(' '), 1);
        Expect.same("the last of the range", new TeaHouse().append('~'), 1);
    }

    /** Promise 58: Throws `IllegalStateException` if the buffer contains 60 characters */
    private static void testAppendTheSixtyFirst() {
        Expect.refused("append ' '", Houses::full, IllegalStateException.class, house -> house.append(' '));
        Expect.refused("append '~'", Houses::full, IllegalStateException.class, house -> house.append('~'));
        Expect.same("the sixtieth", Houses.withText("x".repeat(59)).append('~'), 60);
    }

    /** Promise 59: Either all commands are executed or none. */
    private static void testAllOrNone() {
        String[] failing = {"cup 9;litre 9;attend 1;close;wash 20", "wash 20;cup 9;litre 9;attend 1;close",
            "kettle 4;order 1 1 60 9;cancel 2;minutes 5;wash 20", "serve;wash 3;steam 1;fill 0 5;burner 0 5;wash 1",
            "fill 0 1;fill 0 1;fill 0 1;fill 0 1;fill 0 1;fill 0 1"};
        for (String program : failing) {
            expectUntouched(program, FAILED);
        }
        TeaHouse all = Houses.after(TEN_COMMANDS);
        Expect.same("all ten", all.cupPrice(), 0.875);
        Expect.same("as one change", all.undoableCount(), 1);
        all.undo();
        Expect.same("none of the ten", all.cupPrice(), 1.5);
    }

    /** Compares a tea house after a run in vain with one whose buffer is emptied by another run in vain. */
    private static void expectUntouched(String program, Class<? extends RuntimeException> type) {
        Supplier<TeaHouse> made = Houses.and(Houses::busy, house -> Houses.runInVain(house, ";"));
        Supplier<TeaHouse> touched = Houses.and(made, house -> {
            Words.type(house, program);
            Expect.thrown("'" + program + "'", type, house::run);
        });
        Expect.same("the state after '" + program + "'", Portrait.ofState(touched.get()),
                Portrait.ofState(made.get()));
        for (Probe probe : new Probe[] {Probe.LINES, Probe.NEXT_ORDER, Probe.ATTENDANT, Probe.PAST,
            Probe.SAVED_COPY, Probe.BUFFER_LENGTH}) {
            Expect.same(probe + " after '" + program + "'", probe.answers(touched.get()), probe.answers(made.get()));
        }
        TeaHouse house = made.get();
        int line = Words.line(house).length();
        Houses.runInVain(house, program);
        Expect.same("the line after '" + program + "'", Words.line(house).length(), line);
    }

    /** Promise 59: The buffer is empty afterwards, even if an exception is thrown. */
    private static void testTheBufferIsEmptyAfterwards() {
        Expect.same("after a run", Houses.after("close").append('c'), 1);
        TeaHouse malformed = Houses.withText("x".repeat(60));
        Expect.thrown("malformed", MALFORMED, malformed::run);
        Expect.same("after a malformed program", malformed.append('c'), 1);
        TeaHouse failed = Houses.withText("serve");
        Expect.thrown("failed", FAILED, failed::run);
        Expect.same("after a failed command", failed.append('c'), 1);
        TeaHouse empty = new TeaHouse();
        Expect.thrown("nothing to run", MALFORMED, empty::run);
        Expect.same("after an empty program", empty.append('c'), 1);
        Words.type(empty, "lose");
        Expect.same("the new program alone", empty.run(), 1);
        // Each earlier program would make the later one longer, if its characters were still read.
        expectEndAfter("kettle 4", "kettle");
        expectEndAfter("close;close", "c");
        expectEndAfter("close;close", "close;");
        expectEndAfter("cup 10", "cup ");
        expectEndAfter("fill 0 1", "fill 0");
        TeaHouse shorter = Houses.after("cup 10", "cup 9");
        Expect.same("the digit alone", shorter.cupPrice(), 1.125);
    }

    private static void expectEndAfter(String earlier, String program) {
        TeaHouse house = new TeaHouse();
        Words.type(house, earlier);
        Probe.answer(house::run);
        Words.type(house, program);
        Expect.thrown("'" + program + "' after '" + earlier + "'", MALFORMED, house::run);
        Expect.same("its end after '" + earlier + "'", house.errorPosition(), program.length());
    }

    /** Promise 59: Returns the number of commands. */
    private static void testCommandsFrom1To10() {
        for (int count = 1; count <= 10; count++) {
            Expect.same("run", Words.run(new TeaHouse(), TEN_COMMANDS.substring(0, 6 * count - 1)), count);
        }
    }

    /** Promise 59: Throws `IllegalArgumentException` if the program is malformed; the error position is stored */
    private static void testMalformedAtBothEnds() {
        expectMalformed("", 0);
        expectMalformed("!close", 0);
        expectMalformed("close!", 5);
        expectUntouched("cup 9;litre 9;close;attend 1;servo", MALFORMED);
        expectUntouched("wash 20;servo", MALFORMED);
        expectUntouched("", MALFORMED);
        expectUntouched("kettle 4;", MALFORMED);
        TeaHouse house = Houses.withText("serve;!");
        Expect.thrown("malformed, though it would fail before", MALFORMED, house::run);
        Expect.same("its position", house.errorPosition(), 6);
        Expect.thrown("no command failed", NO_ELEMENT, house::failedCommand);
    }

    /**
     * Promise 59: Throws `IllegalStateException` if the method of a command throws an exception; the index of this
     * command, starting at 0, is stored
     */
    private static void testTheFirstAndTheTenthCommandFail() {
        expectFailure(new TeaHouse(), "serve", 0);
        expectFailure(new TeaHouse(), "serve;close;serve", 0);
        expectFailure(new TeaHouse(), TEN_COMMANDS.substring(0, 53) + ";cup 81", 9);
        expectFailure(new TeaHouse(), TEN_COMMANDS.substring(0, 53) + ";serve", 9);
        // Each exception of a method: no such kettle, out of range, not now, no such order.
        expectFailure(new TeaHouse(), "fill 0 1", 0);
        expectFailure(Houses.withKettles(3), "fill 3 1", 0);
        expectFailure(Houses.withKettles(4), "fill 4 1", 0);
        expectFailure(Houses.withKettles(4), "burner 4 1", 0);
        expectFailure(Houses.withKettles(4), "fill 3 16;fill 3 1", 1);
        expectFailure(Houses.withKettles(4), "burner 3 5;burner 3 6", 1);
        expectFailure(Houses.withKettles(3), "kettle 2;kettle 2", 1);
        expectFailure(Houses.withKettles(1), "kettle 1", 0);
        expectFailure(Houses.withKettles(1), "kettle 17", 0);
        expectFailure(Houses.withOrders(9), "order 9 6 100 9;order 0 1 60 1", 1);
        expectFailure(new TeaHouse(), "order 0 1 60 1;order 0 0 60 1", 1);
        expectFailure(new TeaHouse(), "order 0 1 60 1;order 0 7 60 1", 1);
        expectFailure(new TeaHouse(), "order 0 1 60 1;order 0 1 59 1", 1);
        expectFailure(new TeaHouse(), "order 0 1 60 1;order 0 1 101 1", 1);
        expectFailure(new TeaHouse(), "order 0 1 60 1;order 0 1 60 0", 1);
        expectFailure(Houses.withOrders(2), "cancel 0;cancel 1;cancel 2", 2);
        expectFailure(Houses.withUsedCups(3), "wash 3;wash 1", 1);
        expectFailure(Houses.withUsedCups(20), "wash 0", 0);
        expectFailure(Houses.withUsedCups(20), "wash 21", 0);
        expectFailure(Houses.withSteam(80), "steam 80;steam 1", 1);
        expectFailure(Houses.withSteam(81), "steam 81", 0);
        expectFailure(Houses.withSteam(81), "steam 0", 0);
        expectFailure(new TeaHouse(), "minutes 120;minutes 121", 1);
        expectFailure(new TeaHouse(), "minutes 1;minutes 0", 1);
        expectFailure(new TeaHouse(), "cup 80;cup 81", 1);
        expectFailure(new TeaHouse(), "cup 1;cup 0", 1);
        expectFailure(new TeaHouse(), "litre 80;litre 81", 1);
        expectFailure(new TeaHouse(), "litre 1;litre 0", 1);
        expectFailure(Houses.withNights(13), "close;close", 1);
    }

    /** Promise 60: Returns the error position of the latest malformed program. */
    private static void testTheLatestErrorPosition() {
        TeaHouse house = new TeaHouse();
        Houses.runInVain(house, "x".repeat(60));
        Expect.same("the first", house.errorPosition(), 0);
        Houses.runInVain(house, TEN_COMMANDS + ";");
        Expect.same("the second", house.errorPosition(), 60);
        Words.run(house, "close");
        Expect.same("after a run", house.errorPosition(), 60);
        Houses.runInVain(house, "serve");
        Expect.same("after a failed command", house.errorPosition(), 60);
        Houses.runInVain(house, "");
        Expect.same("the third", house.errorPosition(), 0);
    }

    /** Promise 60: Throws `NoSuchElementException` if no program was malformed so far */
    private static void testNoErrorPosition() {
        Expect.refused("at first", TeaHouse::new, NO_ELEMENT, house -> house.errorPosition());
        Expect.refused("after a run", () -> Houses.after("close"), NO_ELEMENT, house -> house.errorPosition());
        Supplier<TeaHouse> failed = Houses.and(TeaHouse::new, house -> Houses.runInVain(house, "serve"));
        Expect.refused("after a failed command", failed, NO_ELEMENT, house -> house.errorPosition());
        Supplier<TeaHouse> typed = () -> Houses.withText("x");
        Expect.refused("before the run", typed, NO_ELEMENT, house -> house.errorPosition());
    }

    /** Promise 61: Returns the index of the latest command that failed. */
    private static void testTheLatestFailedCommand() {
        TeaHouse house = new TeaHouse();
        Houses.runInVain(house, "serve");
        Expect.same("the first", house.failedCommand(), 0);
        Houses.runInVain(house, TEN_COMMANDS.substring(0, 53) + ";serve");
        Expect.same("the second", house.failedCommand(), 9);
        Words.run(house, "close");
        Expect.same("after a run", house.failedCommand(), 9);
        Houses.runInVain(house, "x");
        Expect.same("after a malformed program", house.failedCommand(), 9);
        Houses.runInVain(house, "serve;close");
        Expect.same("the third", house.failedCommand(), 0);
    }

    /** Promise 61: Throws `NoSuchElementException` if no command failed so far */
    private static void testNoFailedCommand() {
        Expect.refused("at first", TeaHouse::new, NO_ELEMENT, house -> house.failedCommand());
        Expect.refused("after a run", () -> Houses.after("close"), NO_ELEMENT, house -> house.failedCommand());
        Supplier<TeaHouse> malformed = Houses.and(TeaHouse::new, house -> Houses.runInVain(house, "x"));
        Expect.refused("after a malformed program", malformed, NO_ELEMENT, house -> house.failedCommand());
        Supplier<TeaHouse> refused = Houses.and(TeaHouse::new,
                house -> Expect.thrown("no order waits", FAILED, house::serveNext));
        Expect.refused("after a refused call", refused, NO_ELEMENT, house -> house.failedCommand());
    }
}
