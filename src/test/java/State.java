import java.util.NoSuchElementException;

/** All that can be asked of an object without changing it, as one text. */
final class State {
    private State() {
    }

    static String of(PrintsGoOn prints) {
        return prints.count(13) + " acts " + withoutActs(prints);
    }

    /** All but how many acts can be undone. */
    static String withoutActs(PrintsGoOn prints) {
        StringBuilder text = new StringBuilder();
        for (int what = -1; what <= 14; what++) {
            text.append(what == 13 ? 0 : prints.count(what)).append(' ');
        }
        for (int sort = 0; sort < 3; sort++) {
            text.append("fault ").append(prints.fault(sort)).append(' ');
        }
        for (int what = 0; what < 10; what++) {
            text.append("all ").append(prints.all(what)).append(' ');
        }
        cells(prints, text);
        goers(prints, text);
        log(prints, text);
        evenings(prints, text);
        return text.toString();
    }

    private static void cells(PrintsGoOn prints, StringBuilder text) {
        for (int cell = 0; cell < prints.count(0); cell++) {
            text.append(prints.shore(cell, 0)).append(prints.shore(cell, 1)).append(' ');
        }
    }

    private static void goers(PrintsGoOn prints, StringBuilder text) {
        for (int goer = 0; goer < prints.count(1); goer++) {
            text.append("goer ");
            for (int what = 0; what < 5; what++) {
                text.append(goer(prints, goer, what)).append(' ');
            }
            text.append(prints.ahead(goer)).append(' ').append(prints.where(goer, 3)).append(' ');
            text.append(prints.fits(goer, -1)).append(' ').append(prints.fits(goer, 0)).append(' ');
        }
    }

    /** -1 where the call is refused: no answer is below 0. */
    static int goer(PrintsGoOn prints, int goer, int what) {
        try {
            return prints.goer(goer, what);
        } catch (NoSuchElementException e) {
            return -1;
        }
    }

    private static void log(PrintsGoOn prints, StringBuilder text) {
        for (int i = 0; i < prints.count(12); i++) {
            text.append("log ");
            for (int what = 0; what < 3; what++) {
                text.append(prints.log(i, what)).append(' ');
            }
        }
    }

    private static void evenings(PrintsGoOn prints, StringBuilder text) {
        for (int evening = 0; evening < prints.count(3); evening++) {
            text.append("evening ").append(prints.run(evening, 0)).append(' ').append(prints.run(evening, 1));
            for (int i = 0; prints.step(evening, i, 0) != PrintsGoOn.HIDDEN; i++) {
                for (int what = 0; what < 3; what++) {
                    text.append(' ').append(prints.step(evening, i, what));
                }
            }
        }
    }
}
