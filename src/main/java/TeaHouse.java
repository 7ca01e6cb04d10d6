import java.util.NoSuchElementException;

/**
 * A tea house with kettles on burners, orders by priority, steam that is collected and sold, and a ledger of nights.
 *
 * <p>Inside, volumes and money are whole eighths and temperatures are whole half degrees; only the face speaks float.
 */
public final class TeaHouse {
    private static final int NONE = -1;
    private static final int EIGHTHS_PER_QUARTER = 2;
    private static final int EIGHTHS_PER_CUP = 2;
    private static final int HALVES_PER_DEGREE = 2;
    private static final int COLDEST = 40;
    private static final int HOTTEST = 200;
    private static final int LONGEST_PASS = 120;
    private static final int MOST_KETTLES = 4;
    private static final int MOST_WAITING = 10;
    private static final int MOST_NIGHTS = 14;
    private static final int ALL_CUPS = 20;
    private static final int HIGHEST_PRICE = 80;
    private static final int MOST_UNDOABLE = 8;
    private static final int MOST_CHARACTERS = 60;
    /** The shortest command has five characters. */
    private static final int MOST_COMMANDS = MOST_CHARACTERS / 5;
    private static final int MOST_ARGUMENTS = 4;
    private static final Verb[] VERBS = Verb.values();

    private final House now = new House();
    private final House trial = new House();
    private final House saved = new House();
    private final House[] past = new House[MOST_UNDOABLE];
    private final Kettles kettleCopy = new Kettles();
    private final Input input = new Input();
    private final StringBuilder line = new StringBuilder();
    private boolean hasSaved = false;
    private int pastCount = 0;
    private int nextPast = 0;
    private int malformedAt = NONE;
    private int failedAt = NONE;

    public TeaHouse() {
        for (int i = 0; i < MOST_UNDOABLE; i++) {
            past[i] = new House();
        }
    }

    // Changes

    public int addKettle(int quarters) throws IllegalArgumentException, IllegalStateException {
        return change(Verb.KETTLE, quarters, 0, 0, 0);
    }

    public float fill(int kettle, int quarters)
            throws IndexOutOfBoundsException, IllegalArgumentException, IllegalStateException {
        return halves(change(Verb.FILL, kettle, quarters, 0, 0));
    }

    public int setBurner(int kettle, int level) throws IndexOutOfBoundsException, IllegalArgumentException {
        return change(Verb.BURNER, kettle, level, 0, 0);
    }

    public int order(int table, int cups, int minimum, int priority)
            throws IllegalArgumentException, IllegalStateException {
        return change(Verb.ORDER, table, cups, minimum, priority);
    }

    public int cancel(int order) throws NoSuchElementException {
        return change(Verb.CANCEL, order, 0, 0, 0);
    }

    public int serveNext() throws IllegalStateException {
        return change(Verb.SERVE, 0, 0, 0, 0);
    }

    public int wash(int cups) throws IllegalArgumentException, IllegalStateException {
        return change(Verb.WASH, cups, 0, 0, 0);
    }

    public float sellSteam(int eighths) throws IllegalArgumentException, IllegalStateException {
        return eighths(change(Verb.STEAM, eighths, 0, 0, 0));
    }

    public float setCupPrice(int eighths) throws IllegalArgumentException {
        return eighths(change(Verb.CUP, eighths, 0, 0, 0));
    }

    public float setSteamPrice(int price) throws IllegalArgumentException {
        return (float) change(Verb.LITRE, price, 0, 0, 0);
    }

    public boolean setAttendant(boolean isPresent) {
        return change(Verb.ATTEND, isPresent ? 1 : 0, 0, 0, 0) != 0;
    }

    public int pass(int minutes) throws IllegalArgumentException {
        return change(Verb.MINUTES, minutes, 0, 0, 0);
    }

    public float closeNight() throws IllegalStateException {
        return eighths(change(Verb.CLOSE, 0, 0, 0, 0));
    }

    // Kettles

    public int kettleCount() {
        return now.kettles.count;
    }

    public float capacity(int kettle) throws IndexOutOfBoundsException {
        requireKettle(kettle);
        return eighths(now.kettles.capacities[kettle]);
    }

    public float volume(int kettle) throws IndexOutOfBoundsException {
        requireKettle(kettle);
        return eighths(now.kettles.volumes[kettle]);
    }

    public float temperature(int kettle) throws IndexOutOfBoundsException {
        requireKettle(kettle);
        return halves(now.kettles.temperatures[kettle]);
    }

    public int temperatureBits(int kettle) throws IndexOutOfBoundsException {
        requireKettle(kettle);
        return bitsOfHalves(now.kettles.temperatures[kettle]);
    }

    public int burner(int kettle) throws IndexOutOfBoundsException {
        requireKettle(kettle);
        return now.kettles.levels[kettle];
    }

    public boolean isBoiling(int kettle) throws IndexOutOfBoundsException {
        requireKettle(kettle);
        return now.kettles.boiled[kettle];
    }

    public int minutesUntilBoiling(int kettle) throws IndexOutOfBoundsException, NoSuchElementException {
        requireKettle(kettle);
        return requireFound(now.kettles.heatingTime(kettle));
    }

    public int minutesUntilBoilingByMinutes(int kettle) throws IndexOutOfBoundsException, NoSuchElementException {
        requireKettle(kettle);
        return requireFound(heatingTimeOnCopy(kettle));
    }

    public int kettleByTemperature(int rank) throws NoSuchElementException {
        return requireFound(now.kettles.ranked(rank));
    }

    // Orders

    public int waitingCount() {
        return now.orders.count;
    }

    public int orderAt(int position) throws NoSuchElementException {
        return requireFound(now.orders.numberAt(position));
    }

    public int positionOf(int order) throws NoSuchElementException {
        return requireFound(now.orders.find(order));
    }

    public int cupsOf(int order) throws NoSuchElementException {
        int position = requireFound(now.orders.find(order));
        return now.orders.cups[position];
    }

    public float priceOf(int order) throws NoSuchElementException {
        int position = requireFound(now.orders.find(order));
        return eighths(now.orders.cups[position] * now.cupPrice);
    }

    public int kettleFor(int order) throws NoSuchElementException {
        int position = requireFound(now.orders.find(order));
        return requireFound(now.kettles.suitable(now.orders.cups[position], now.orders.minima[position]));
    }

    public int minutesUntilSuitable(int order) throws NoSuchElementException {
        int position = requireFound(now.orders.find(order));
        return requireFound(waitOnCopy(now.orders.cups[position], now.orders.minima[position]));
    }

    public boolean canServe() {
        return now.refusal(Verb.SERVE, 0, 0, 0, 0) == Refusal.NOTHING;
    }

    // Stock and money

    public int cleanCups() {
        return now.cleanCups;
    }

    public float steam() {
        return eighths(now.steam);
    }

    public float boiledTotal() {
        return eighths(now.boiled);
    }

    public float pouredTotal() {
        return eighths(now.poured);
    }

    public float filledTotal() {
        return eighths(now.filled);
    }

    public float cupPrice() {
        return eighths(now.cupPrice);
    }

    public float steamPrice() {
        return (float) now.steamPrice;
    }

    public float income() {
        return eighths(now.ledger.present);
    }

    public int nightCount() {
        return now.ledger.count;
    }

    public float nightIncome(int night) throws IndexOutOfBoundsException {
        if (night < 0 || night >= now.ledger.count) {
            throw new IndexOutOfBoundsException("the ledger has no such night");
        }
        return eighths(now.ledger.incomes[night]);
    }

    public int nightByIncome(int rank) throws NoSuchElementException {
        return requireFound(now.ledger.ranked(rank));
    }

    public float greatestIncome(int nights) throws IllegalArgumentException, NoSuchElementException {
        requireNights(nights);
        return eighths(now.ledger.greatestByAdding(nights));
    }

    public float greatestIncomeBySums(int nights) throws IllegalArgumentException, NoSuchElementException {
        requireNights(nights);
        return eighths(now.ledger.greatestByDifferences(nights));
    }

    public float totalIncome() {
        return eighths(now.ledger.totalOfNights());
    }

    public float totalIncomeBySales() {
        return eighths(now.ledger.totalOfSales());
    }

    public int servedOrders() {
        return now.served;
    }

    public int whistlesHeard() {
        return now.heard;
    }

    public int whistlesLost() {
        return now.lost;
    }

    public double meanTemperature() throws ArithmeticException {
        int count = now.kettles.count;
        if (count <= 0) {
            throw new ArithmeticException("there are no kettles");
        }
        double sum = 0.0;
        for (int kettle = 0; kettle < count; kettle++) {
            sum += (double) halves(now.kettles.temperatures[kettle]);
        }
        return sum / (double) count;
    }

    public float lostShare() throws ArithmeticException {
        int all = now.heard + now.lost;
        if (all <= 0) {
            throw new ArithmeticException("there were no whistles");
        }
        return (float) now.lost / (float) all;
    }

    public boolean isBalanced() {
        return now.filled == now.kettles.totalVolume() + now.poured + now.boiled
                && now.steam <= now.boiled
                && now.ledger.isConsistent()
                && now.orders.isConsistent()
                && now.kettles.isRankedOnceEach()
                && allTemperatureBitsFit()
                && allHeatingTimesAgree();
    }

    // The line

    public int formatKettle(int kettle) throws IndexOutOfBoundsException {
        requireKettle(kettle);
        line.setLength(0);
        now.kettles.describe(kettle, line);
        return line.length();
    }

    public int formatOrder(int order) throws NoSuchElementException {
        int position = requireFound(now.orders.find(order));
        line.setLength(0);
        now.orders.describe(position, line);
        return line.length();
    }

    public int formatLedger() {
        line.setLength(0);
        now.ledger.describe(line);
        return line.length();
    }

    public char lineChar(int index) throws IndexOutOfBoundsException {
        if (index < 0 || index >= line.length()) {
            throw new IndexOutOfBoundsException("the line has no such character");
        }
        return line.charAt(index);
    }

    // Programs

    public int append(char character) throws IllegalArgumentException, IllegalStateException {
        if (character < ' ' || character > '~') {
            throw new IllegalArgumentException("the character is not in the range from blank to tilde");
        }
        if (input.length >= MOST_CHARACTERS) {
            throw new IllegalStateException("the input buffer is full");
        }
        input.add(character);
        return input.length;
    }

    public int run() throws IllegalArgumentException, IllegalStateException {
        boolean isProgram = input.parse();
        input.length = 0;
        if (!isProgram) {
            malformedAt = input.cursor;
            throw new IllegalArgumentException("the program is malformed");
        }
        int failed = firstFailureOnTrial();
        if (failed != NONE) {
            failedAt = failed;
            throw new IllegalStateException("a command of the program failed");
        }
        remember();
        now.copyFrom(trial);
        return input.commandCount;
    }

    public int errorPosition() throws NoSuchElementException {
        return requireFound(malformedAt);
    }

    public int failedCommand() throws NoSuchElementException {
        return requireFound(failedAt);
    }

    // Undo and the saved copy

    public int undoableCount() {
        return pastCount;
    }

    public int undo() throws IllegalStateException {
        if (pastCount <= 0) {
            throw new IllegalStateException("no change can be undone");
        }
        nextPast = (nextPast + MOST_UNDOABLE - 1) % MOST_UNDOABLE;
        pastCount--;
        now.copyFrom(past[nextPast]);
        return pastCount;
    }

    public int save() {
        saved.copyFrom(now);
        hasSaved = true;
        return saved.kettles.count;
    }

    public int restore() throws IllegalStateException {
        if (!hasSaved) {
            throw new IllegalStateException("there is no saved copy");
        }
        now.copyFrom(saved);
        pastCount = 0;
        return now.kettles.count;
    }

    private int change(Verb verb, int first, int second, int third, int fourth) {
        requireAllowed(now.refusal(verb, first, second, third, fourth));
        remember();
        return now.perform(verb, first, second, third, fourth);
    }

    /** The places form a ring, so that a ninth change takes the place of the oldest. */
    private void remember() {
        past[nextPast].copyFrom(now);
        nextPast = (nextPast + 1) % MOST_UNDOABLE;
        pastCount = Math.min(pastCount + 1, MOST_UNDOABLE);
    }

    private int firstFailureOnTrial() {
        trial.copyFrom(now);
        for (int i = 0; i < input.commandCount; i++) {
            Verb verb = VERBS[input.verbs[i]];
            int first = input.argument(i, 0);
            int second = input.argument(i, 1);
            int third = input.argument(i, 2);
            int fourth = input.argument(i, 3);
            if (trial.refusal(verb, first, second, third, fourth) != Refusal.NOTHING) {
                return i;
            }
            trial.perform(verb, first, second, third, fourth);
        }
        return NONE;
    }

    private int heatingTimeOnCopy(int kettle) {
        kettleCopy.copyFrom(now.kettles);
        // Even the weakest burner boils a cold kettle within this time.
        for (int minute = 1; minute <= LONGEST_PASS; minute++) {
            kettleCopy.passMinute(kettle);
            if (kettleCopy.boiled[kettle]) {
                return minute;
            }
        }
        return NONE;
    }

    private int waitOnCopy(int cups, int minimum) {
        kettleCopy.copyFrom(now.kettles);
        for (int minute = 0; minute <= LONGEST_PASS; minute++) {
            if (kettleCopy.suitable(cups, minimum) != NONE) {
                return minute;
            }
            for (int kettle = 0; kettle < kettleCopy.count; kettle++) {
                kettleCopy.passMinute(kettle);
            }
        }
        return NONE;
    }

    private boolean allTemperatureBitsFit() {
        for (int kettle = 0; kettle < now.kettles.count; kettle++) {
            int temperature = now.kettles.temperatures[kettle];
            if (floatOfBits(bitsOfHalves(temperature)) != halves(temperature)) {
                return false;
            }
        }
        return true;
    }

    private boolean allHeatingTimesAgree() {
        for (int kettle = 0; kettle < now.kettles.count; kettle++) {
            if (now.kettles.heatingTime(kettle) != heatingTimeOnCopy(kettle)) {
                return false;
            }
        }
        return true;
    }

    private static void requireAllowed(Refusal refusal) {
        if (refusal == Refusal.NO_SUCH_KETTLE) {
            throw new IndexOutOfBoundsException("there is no such kettle");
        }
        if (refusal == Refusal.OUT_OF_RANGE) {
            throw new IllegalArgumentException("an argument is out of range");
        }
        if (refusal == Refusal.NOT_NOW) {
            throw new IllegalStateException("the tea house does not allow this now");
        }
        if (refusal == Refusal.NO_SUCH_ORDER) {
            throw new NoSuchElementException("no waiting order has this number");
        }
    }

    private void requireKettle(int kettle) {
        if (!now.kettles.has(kettle)) {
            throw new IndexOutOfBoundsException("there is no such kettle");
        }
    }

    private void requireNights(int nights) {
        if (!isWithin(nights, 1, MOST_NIGHTS)) {
            throw new IllegalArgumentException("the number of nights is out of range");
        }
        if (nights > now.ledger.count) {
            throw new NoSuchElementException("the ledger holds fewer nights");
        }
    }

    private static int requireFound(int answer) {
        if (answer == NONE) {
            throw new NoSuchElementException("there is no such element");
        }
        return answer;
    }

    private static boolean isWithin(int value, int least, int most) {
        return value >= least && value <= most;
    }

    private static float eighths(int count) {
        return (float) count * 0.125f;
    }

    private static float halves(int count) {
        return (float) count * 0.5f;
    }

    /** The library's own conversion is not among what LANGUAGE.md lists. */
    private static int bitsOfHalves(int count) {
        int power = 0;
        while (power < 22 && (count >> (power + 1)) != 0) {
            power++;
        }
        int exponent = power - 1 + 127;
        int fraction = (count - (1 << power)) << (23 - power);
        return (exponent << 23) | fraction;
    }

    private static float floatOfBits(int bits) {
        float value = (float) ((bits & 0x7fffff) | 0x800000);
        int exponent = (bits >> 23) - 127;
        for (int power = 23; power > exponent && power > 0; power--) {
            value = value * 0.5f;
        }
        return value;
    }

    /** What can be done to a tea house, with the word and the arguments (d: a digit, n: a number) of its command. */
    private enum Verb {
        KETTLE("kettle", "n"),
        FILL("fill", "dn"),
        BURNER("burner", "dd"),
        ORDER("order", "ddnd"),
        CANCEL("cancel", "n"),
        SERVE("serve", ""),
        WASH("wash", "n"),
        STEAM("steam", "n"),
        MINUTES("minutes", "n"),
        CUP("cup", "n"),
        LITRE("litre", "n"),
        ATTEND("attend", "d"),
        CLOSE("close", "");

        final String word;
        final String kinds;

        Verb(String word, String kinds) {
            this.word = word;
            this.kinds = kinds;
        }
    }

    /** Why something is not done; commands need the reason as a value, because they fail without an exception. */
    private enum Refusal {
        NOTHING, NO_SUCH_KETTLE, OUT_OF_RANGE, NOT_NOW, NO_SUCH_ORDER
    }

    /** Everything that changes can change. */
    private static final class House {
        final Kettles kettles = new Kettles();
        final Orders orders = new Orders();
        final Ledger ledger = new Ledger();
        int cleanCups = ALL_CUPS;
        int steam = 0;
        int boiled = 0;
        int poured = 0;
        int filled = 0;
        int cupPrice = 12;
        int steamPrice = 2;
        boolean isAttended = true;
        int served = 0;
        int heard = 0;
        int lost = 0;

        void copyFrom(House other) {
            kettles.copyFrom(other.kettles);
            orders.copyFrom(other.orders);
            ledger.copyFrom(other.ledger);
            cleanCups = other.cleanCups;
            steam = other.steam;
            boiled = other.boiled;
            poured = other.poured;
            filled = other.filled;
            cupPrice = other.cupPrice;
            steamPrice = other.steamPrice;
            isAttended = other.isAttended;
            served = other.served;
            heard = other.heard;
            lost = other.lost;
        }

        Refusal refusal(Verb verb, int first, int second, int third, int fourth) {
            switch (verb) {
                case KETTLE:
                    return unless(isWithin(first, 2, 16), kettles.count < MOST_KETTLES);
                case FILL:
                    return refusalToFill(first, second);
                case BURNER:
                    return kettles.has(first) ? unless(isWithin(second, 0, 5), true) : Refusal.NO_SUCH_KETTLE;
                case ORDER:
                    return unless(isWithin(first, 0, 9) && isWithin(second, 1, 6)
                            && isWithin(third, 60, 100) && isWithin(fourth, 1, 9), orders.count < MOST_WAITING);
                case CANCEL:
                    return orders.find(first) == NONE ? Refusal.NO_SUCH_ORDER : Refusal.NOTHING;
                case SERVE:
                    return unless(true, firstCanBeServed());
                case WASH:
                    return unless(isWithin(first, 1, ALL_CUPS), first <= ALL_CUPS - cleanCups);
                case STEAM:
                    return unless(isWithin(first, 1, 80), first <= steam);
                case MINUTES:
                    return unless(isWithin(first, 1, LONGEST_PASS), true);
                case CUP:
                case LITRE:
                    return unless(isWithin(first, 1, HIGHEST_PRICE), true);
                case CLOSE:
                    return unless(true, ledger.count < MOST_NIGHTS);
                default:
                    return Refusal.NOTHING;
            }
        }

        /** Answers in numbers, eighths or half degrees, as the verb has them; refusal must have answered NOTHING. */
        int perform(Verb verb, int first, int second, int third, int fourth) {
            switch (verb) {
                case KETTLE:
                    return kettles.add(first * EIGHTHS_PER_QUARTER);
                case FILL:
                    filled += second * EIGHTHS_PER_QUARTER;
                    return kettles.pourIn(first, second * EIGHTHS_PER_QUARTER);
                case BURNER:
                    return kettles.turnBurner(first, second);
                case ORDER:
                    return orders.add(first, second, third, fourth);
                case CANCEL:
                    orders.remove(orders.find(first));
                    return orders.count;
                case SERVE:
                    return serveFirst();
                case WASH:
                    cleanCups += first;
                    return cleanCups;
                case STEAM:
                    return sell(first);
                case MINUTES:
                    return passMinutes(first);
                case CUP:
                    return exchangeCupPrice(first);
                case LITRE:
                    return exchangeSteamPrice(first);
                case ATTEND:
                    return exchangeAttendant(first != 0);
                default:
                    return ledger.enterNight();
            }
        }

        private static Refusal unless(boolean isInRange, boolean isPossibleNow) {
            if (!isInRange) {
                return Refusal.OUT_OF_RANGE;
            }
            return isPossibleNow ? Refusal.NOTHING : Refusal.NOT_NOW;
        }

        private Refusal refusalToFill(int kettle, int quarters) {
            if (!kettles.has(kettle)) {
                return Refusal.NO_SUCH_KETTLE;
            }
            int volume = kettles.volumes[kettle] + quarters * EIGHTHS_PER_QUARTER;
            return unless(isWithin(quarters, 1, 16), volume <= kettles.capacities[kettle]);
        }

        private int kettleForFirst() {
            return orders.count > 0 ? kettles.suitable(orders.cups[0], orders.minima[0]) : NONE;
        }

        private boolean firstCanBeServed() {
            return kettleForFirst() != NONE && orders.cups[0] <= cleanCups;
        }

        private int serveFirst() {
            int kettle = kettleForFirst();
            if (kettle == NONE) {
                return NONE;
            }
            int cups = orders.cups[0];
            int number = orders.numbers[0];
            kettles.volumes[kettle] -= cups * EIGHTHS_PER_CUP;
            poured += cups * EIGHTHS_PER_CUP;
            cleanCups -= cups;
            served++;
            ledger.enterCups(cups * cupPrice);
            orders.remove(0);
            return number;
        }

        private int sell(int volume) {
            int price = volume * steamPrice;
            steam -= volume;
            ledger.enterSteam(price);
            return price;
        }

        private int passMinutes(int minutes) {
            int whistles = 0;
            for (int minute = 0; minute < minutes; minute++) {
                for (int kettle = 0; kettle < kettles.count; kettle++) {
                    boolean boiledBefore = kettles.boiled[kettle];
                    int vapour = kettles.passMinute(kettle);
                    steam += vapour;
                    boiled += vapour;
                    if (kettles.boiled[kettle] && !boiledBefore) {
                        whistles++;
                    }
                }
            }
            if (isAttended) {
                heard += whistles;
            } else {
                lost += whistles;
            }
            return whistles;
        }

        private int exchangeCupPrice(int price) {
            int previous = cupPrice;
            cupPrice = price;
            return previous;
        }

        private int exchangeSteamPrice(int price) {
            int previous = steamPrice;
            steamPrice = price;
            return previous;
        }

        private int exchangeAttendant(boolean isPresent) {
            int previous = isAttended ? 1 : 0;
            isAttended = isPresent;
            return previous;
        }
    }

    /** The kettles by number; volumes in eighths of a litre, temperatures in half degrees. */
    private static final class Kettles {
        final int[] capacities = new int[MOST_KETTLES];
        final int[] volumes = new int[MOST_KETTLES];
        final int[] temperatures = new int[MOST_KETTLES];
        final int[] levels = new int[MOST_KETTLES];
        final boolean[] boiled = new boolean[MOST_KETTLES];
        int count = 0;

        void copyFrom(Kettles other) {
            count = other.count;
            for (int kettle = 0; kettle < MOST_KETTLES; kettle++) {
                capacities[kettle] = other.capacities[kettle];
                volumes[kettle] = other.volumes[kettle];
                temperatures[kettle] = other.temperatures[kettle];
                levels[kettle] = other.levels[kettle];
                boiled[kettle] = other.boiled[kettle];
            }
        }

        boolean has(int kettle) {
            return kettle >= 0 && kettle < count;
        }

        int add(int capacity) {
            if (count >= MOST_KETTLES) {
                return NONE;
            }
            int kettle = count;
            capacities[kettle] = capacity;
            volumes[kettle] = 0;
            temperatures[kettle] = COLDEST;
            levels[kettle] = 0;
            boiled[kettle] = false;
            count++;
            return kettle;
        }

        int pourIn(int kettle, int added) {
            int before = volumes[kettle];
            int after = before + added;
            if (after > 0) {
                temperatures[kettle] = COLDEST + (temperatures[kettle] - COLDEST) * before / after;
            }
            volumes[kettle] = after;
            return temperatures[kettle];
        }

        int turnBurner(int kettle, int level) {
            int previous = levels[kettle];
            levels[kettle] = level;
            return previous;
        }

        /** Answers the volume that leaves as steam. */
        int passMinute(int kettle) {
            temperatures[kettle] = volumes[kettle] == 0 ? COLDEST : heated(kettle);
            boiled[kettle] = volumes[kettle] > 0 && temperatures[kettle] == HOTTEST && levels[kettle] > 0;
            int vapour = boiled[kettle] ? Math.min(levels[kettle], volumes[kettle]) : 0;
            volumes[kettle] -= vapour;
            return vapour;
        }

        private int heated(int kettle) {
            return Math.max(COLDEST, Math.min(HOTTEST, temperatures[kettle] + rise(kettle)));
        }

        private int rise(int kettle) {
            return 3 * levels[kettle] - 1;
        }

        int heatingTime(int kettle) {
            int rise = rise(kettle);
            if (volumes[kettle] == 0 || rise <= 0) {
                return NONE;
            }
            int missing = HOTTEST - temperatures[kettle];
            // A kettle that is hot already boils only when the next minute passes.
            return Math.max(1, (missing + rise - 1) / rise);
        }

        int suitable(int cups, int minimum) {
            int best = NONE;
            int bestTemperature = minimum * HALVES_PER_DEGREE - 1;
            for (int kettle = 0; kettle < count; kettle++) {
                if (volumes[kettle] >= cups * EIGHTHS_PER_CUP && temperatures[kettle] > bestTemperature) {
                    best = kettle;
                    bestTemperature = temperatures[kettle];
                }
            }
            return best;
        }

        int ranked(int rank) {
            for (int kettle = 0; kettle < count; kettle++) {
                if (rankOf(kettle) == rank) {
                    return kettle;
                }
            }
            return NONE;
        }

        private int rankOf(int kettle) {
            int rank = 0;
            for (int other = 0; other < count; other++) {
                if (isAhead(other, kettle)) {
                    rank++;
                }
            }
            return rank;
        }

        private boolean isAhead(int kettle, int other) {
            if (temperatures[kettle] != temperatures[other]) {
                return temperatures[kettle] > temperatures[other];
            }
            if (volumes[kettle] != volumes[other]) {
                return volumes[kettle] > volumes[other];
            }
            return kettle < other;
        }

        boolean isRankedOnceEach() {
            int seen = 0;
            for (int rank = 0; rank < count; rank++) {
                int kettle = ranked(rank);
                if (!has(kettle) || (seen & (1 << kettle)) != 0) {
                    return false;
                }
                seen |= 1 << kettle;
            }
            return true;
        }

        int totalVolume() {
            int total = 0;
            for (int kettle = 0; kettle < count; kettle++) {
                total += volumes[kettle];
            }
            return total;
        }

        void describe(int kettle, StringBuilder line) {
            line.append('K').append(kettle).append(' ');
            line.append(volumes[kettle]).append('/').append(capacities[kettle]).append(' ');
            line.append(temperatures[kettle]).append('h');
            if (levels[kettle] > 0) {
                line.append(" b").append(levels[kettle]);
            }
            if (boiled[kettle]) {
                line.append('!');
            }
        }
    }

    /** The waiting orders, kept in the order of serving. */
    private static final class Orders {
        final int[] numbers = new int[MOST_WAITING];
        final int[] tables = new int[MOST_WAITING];
        final int[] cups = new int[MOST_WAITING];
        final int[] minima = new int[MOST_WAITING];
        final int[] priorities = new int[MOST_WAITING];
        int count = 0;
        int nextNumber = 0;

        void copyFrom(Orders other) {
            count = other.count;
            nextNumber = other.nextNumber;
            for (int position = 0; position < MOST_WAITING; position++) {
                copyOrder(other, position, position);
            }
        }

        private void copyOrder(Orders source, int from, int to) {
            numbers[to] = source.numbers[from];
            tables[to] = source.tables[from];
            cups[to] = source.cups[from];
            minima[to] = source.minima[from];
            priorities[to] = source.priorities[from];
        }

        int add(int table, int cupCount, int minimum, int priority) {
            if (count >= MOST_WAITING) {
                return NONE;
            }
            // Numbers only grow, so among equal priorities the new order goes last.
            int position = count;
            while (position > 0 && priorities[position - 1] < priority) {
                copyOrder(this, position - 1, position);
                position--;
            }
            numbers[position] = nextNumber;
            tables[position] = table;
            cups[position] = cupCount;
            minima[position] = minimum;
            priorities[position] = priority;
            count++;
            nextNumber++;
            return numbers[position];
        }

        void remove(int position) {
            if (position < 0 || position >= count) {
                return;
            }
            for (int to = position; to < count - 1; to++) {
                copyOrder(this, to + 1, to);
            }
            count--;
        }

        int find(int number) {
            for (int position = 0; position < count; position++) {
                if (numbers[position] == number) {
                    return position;
                }
            }
            return NONE;
        }

        int numberAt(int position) {
            return position >= 0 && position < count ? numbers[position] : NONE;
        }

        boolean isConsistent() {
            for (int position = 0; position < count; position++) {
                if (find(numberAt(position)) != position) {
                    return false;
                }
            }
            return true;
        }

        void describe(int position, StringBuilder line) {
            line.append('#').append(numbers[position]);
            line.append(" t").append(tables[position]);
            line.append(' ').append(cups[position]);
            line.append('x').append(minima[position]);
            line.append(" p").append(priorities[position]);
        }
    }

    /** The closed nights and the present one, in eighths. */
    private static final class Ledger {
        final int[] incomes = new int[MOST_NIGHTS];
        /** sums[n] is the income of the first n nights. */
        final int[] sums = new int[MOST_NIGHTS + 1];
        int count = 0;
        int present = 0;
        int fromCups = 0;
        int fromSteam = 0;

        void copyFrom(Ledger other) {
            count = other.count;
            present = other.present;
            fromCups = other.fromCups;
            fromSteam = other.fromSteam;
            for (int night = 0; night < MOST_NIGHTS; night++) {
                incomes[night] = other.incomes[night];
                sums[night + 1] = other.sums[night + 1];
            }
        }

        void enterCups(int price) {
            present += price;
            fromCups += price;
        }

        void enterSteam(int price) {
            present += price;
            fromSteam += price;
        }

        int enterNight() {
            if (count >= MOST_NIGHTS) {
                return NONE;
            }
            int closed = present;
            incomes[count] = closed;
            sums[count + 1] = sums[count] + closed;
            count++;
            present = 0;
            return closed;
        }

        int ranked(int rank) {
            for (int night = 0; night < count; night++) {
                if (rankOf(night) == rank) {
                    return night;
                }
            }
            return NONE;
        }

        private int rankOf(int night) {
            int rank = 0;
            for (int other = 0; other < count; other++) {
                if (incomes[other] > incomes[night] || (incomes[other] == incomes[night] && other < night)) {
                    rank++;
                }
            }
            return rank;
        }

        int greatestByAdding(int nights) {
            int greatest = 0;
            for (int first = 0; first <= count - nights; first++) {
                int sum = 0;
                for (int night = first; night < first + nights; night++) {
                    sum += incomes[night];
                }
                greatest = Math.max(greatest, sum);
            }
            return greatest;
        }

        int greatestByDifferences(int nights) {
            int greatest = 0;
            for (int first = 0; first <= count - nights; first++) {
                greatest = Math.max(greatest, sums[first + nights] - sums[first]);
            }
            return greatest;
        }

        int totalOfNights() {
            int total = present;
            for (int night = 0; night < count; night++) {
                total += incomes[night];
            }
            return total;
        }

        int totalOfSales() {
            return fromCups + fromSteam;
        }

        boolean isConsistent() {
            for (int nights = 1; nights <= count; nights++) {
                if (greatestByAdding(nights) != greatestByDifferences(nights)) {
                    return false;
                }
            }
            return totalOfNights() == totalOfSales();
        }

        void describe(StringBuilder line) {
            for (int night = 0; night < count; night++) {
                if (night > 0) {
                    line.append(' ');
                }
                line.append(incomes[night]);
            }
        }
    }

    /** The input buffer and the commands that were read from it. */
    private static final class Input {
        final char[] text = new char[MOST_CHARACTERS];
        final int[] verbs = new int[MOST_COMMANDS];
        final int[] arguments = new int[MOST_COMMANDS * MOST_ARGUMENTS];
        int length = 0;
        int commandCount = 0;
        int cursor = 0;

        void add(char character) {
            if (length < MOST_CHARACTERS) {
                text[length] = character;
                length++;
            }
        }

        /** If the text is no program, the cursor stays at the error position. */
        boolean parse() {
            cursor = 0;
            commandCount = 0;
            while (commandCount < MOST_COMMANDS) {
                if (!parseCommand()) {
                    return false;
                }
                commandCount++;
                if (cursor == length) {
                    return true;
                }
                if (!accept(';')) {
                    return false;
                }
            }
            return false;
        }

        int argument(int command, int index) {
            return arguments[command * MOST_ARGUMENTS + index];
        }

        private boolean parseCommand() {
            int verb = parseWord();
            if (verb == NONE) {
                return false;
            }
            verbs[commandCount] = verb;
            String kinds = VERBS[verb].kinds;
            for (int i = 0; i < kinds.length(); i++) {
                int mostDigits = kinds.charAt(i) == 'n' ? 3 : 1;
                if (!accept(' ') || !parseDigits(mostDigits, commandCount * MOST_ARGUMENTS + i)) {
                    return false;
                }
            }
            return true;
        }

        /** No word begins another, so the first that matches whole is the only one. */
        private int parseWord() {
            int furthest = 0;
            for (int verb = 0; verb < VERBS.length; verb++) {
                String word = VERBS[verb].word;
                int matched = matchedLength(word);
                if (matched == word.length()) {
                    cursor += matched;
                    return verb;
                }
                furthest = Math.max(furthest, matched);
            }
            cursor += furthest;
            return NONE;
        }

        private int matchedLength(String word) {
            int matched = 0;
            while (matched < word.length() && cursor + matched < length
                    && text[cursor + matched] == word.charAt(matched)) {
                matched++;
            }
            return matched;
        }

        private boolean accept(char expected) {
            if (cursor >= length || text[cursor] != expected) {
                return false;
            }
            cursor++;
            return true;
        }

        private boolean parseDigits(int mostDigits, int argument) {
            int digits = 0;
            int value = 0;
            while (digits < mostDigits && cursor < length && text[cursor] >= '0' && text[cursor] <= '9') {
                value = value * 10 + (text[cursor] - '0');
                cursor++;
                digits++;
            }
            arguments[argument] = value;
            return digits > 0;
        }
    }
}
