import java.util.function.Supplier;

/**
 * What a tea house answers when it is asked for one side of its state. A probe may change the tea house, because some
 * sides can't be seen otherwise: each one needs a tea house of its own.
 */
enum Probe {
    FACE {
        @Override
        String answers(TeaHouse house) {
            return Portrait.of(house);
        }
    },
    LINES {
        @Override
        String answers(TeaHouse house) {
            StringBuilder text = new StringBuilder();
            for (int kettle = 0; kettle < house.kettleCount(); kettle++) {
                text.append(Words.kettle(house, kettle)).append(", ");
            }
            for (int position = 0; position < house.waitingCount(); position++) {
                text.append(Words.order(house, house.orderAt(position))).append(", ");
            }
            return text.append(Words.ledger(house)).toString();
        }
    },
    NEXT_ORDER {
        @Override
        String answers(TeaHouse house) {
            if (house.waitingCount() >= 10) {
                house.cancel(house.orderAt(9));
            }
            return "order " + house.order(0, 1, 60, 9);
        }
    },
    ATTENDANT {
        @Override
        String answers(TeaHouse house) {
            return "attendant " + house.setAttendant(true);
        }
    },
    PAST {
        @Override
        String answers(TeaHouse house) {
            StringBuilder text = new StringBuilder();
            for (int left = house.undoableCount(); left > 0; left--) {
                text.append("undo ").append(house.undo()).append(Portrait.inShort(house));
            }
            return text.append("attendant ").append(house.setAttendant(true)).toString();
        }
    },
    SAVED_COPY {
        @Override
        String answers(TeaHouse house) {
            return "restore " + answer(house::restore) + Portrait.ofState(house);
        }
    },
    BUFFER_LENGTH {
        @Override
        String answers(TeaHouse house) {
            return "append " + answer(() -> house.append('~'));
        }
    },
    BUFFER_TEXT {
        @Override
        String answers(TeaHouse house) {
            return "run " + answer(house::run) + Portrait.of(house);
        }
    };

    abstract String answers(TeaHouse house);

    /** The answer as a text, or the name of the exception. */
    static String answer(Supplier<Object> question) {
        try {
            return String.valueOf(question.get());
        } catch (RuntimeException e) {
            return e.getClass().getSimpleName();
        }
    }
}
