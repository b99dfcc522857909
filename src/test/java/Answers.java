/** What an object answers to all the calls that change nothing, a line each, so that two objects can be told apart. */
final class Answers {
    private final HourRingers x;
    private final StringBuilder lines = new StringBuilder();

    private Answers(HourRingers x) {
        this.x = x;
    }

    /** Some 120 calls where all is told, so an object of 512 calls can be asked three times. */
    static String of(HourRingers x) {
        Answers answers = new Answers(x);
        answers.counts();
        answers.hours();
        answers.ringers();
        answers.rota();
        answers.nights();
        return answers.lines.toString();
    }

    /** What IMAGES hold is seen by calling them back, what THE TEXT holds by reading it. */
    static String atTheEnd(HourRingers x) {
        Answers answers = new Answers(x);
        for (int image = 0; image < 2; image++) {
            answers.line("back(" + image + ")", x.back(image));
            answers.rota();
        }
        answers.line("clear()", x.clear());
        return answers.lines.toString();
    }

    /** What THE TEXT tells. */
    static String read(HourRingers x) {
        Answers answers = new Answers(x);
        answers.line("parish()", x.parish());
        answers.counts();
        answers.hours();
        answers.ringers();
        return answers.lines.toString();
    }

    private void line(String call, long answer) {
        lines.append(call).append(" -> ").append(answer).append('\n');
    }

    private void counts() {
        for (int what = 0; what < 5; what++) {
            line("count(" + what + ")", x.count(what));
        }
        line("trace()", x.trace());
    }

    private void hours() {
        for (int h = 0; h < x.count(0); h++) {
            line("hour(" + h + ", 0)", x.hour(h, 0));
            line("crew(" + h + ")", x.crew(h));
            line("bars(" + h + ")", x.bars(h));
            line("odds(" + h + ", 0)", x.odds(h, 0));
            line("odds(" + h + ", 1)", x.odds(h, 1));
        }
    }

    private void ringers() {
        for (int r = 0; r < x.count(1); r++) {
            for (int what = 0; what < 4; what++) {
                line("ringer(" + r + ", " + what + ")", x.ringer(r, what));
            }
        }
    }

    /** NOW, and what is asked of it. */
    private void rota() {
        for (int h = 0; h < x.count(0); h++) {
            line("hour(" + h + ", 2)", x.hour(h, 2));
            for (int bell = 0; bell < 3; bell++) {
                line("rings(" + h + ", " + bell + ")", x.rings(h, bell));
            }
        }
        for (int what = 0; what < 4; what++) {
            line("now(" + what + ")", x.now(what));
        }
        for (int what = 0; what < 3; what++) {
            line("away(" + what + ")", x.away(what));
        }
        line("stands(0)", x.stands(0));
        line("stands(1)", x.stands(1));
    }

    private void nights() {
        for (int what = 0; what < 4; what++) {
            line("night(" + what + ")", x.night(what));
        }
        line("needed()", x.needed());
        for (int r = 0; r < x.count(1); r++) {
            for (int h = 0; h < x.count(0); h++) {
                line("best(" + r + ", " + h + ")", x.best(r, h));
            }
        }
    }
}
