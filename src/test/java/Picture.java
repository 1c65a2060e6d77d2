/** All that can be asked of an office, as a text: two offices of one picture answer alike. */
final class Picture {
    private final StringBuilder text = new StringBuilder();

    private interface Answer {
        long get();
    }

    private Picture() {
    }

    /** What is asked leaves an office as it is. */
    static String of(CrewOffice x) {
        Picture picture = new Picture();
        picture.askAll(x);
        return picture.text.toString();
    }

    /** Also what can be seen by going on only: the office is not as it was behind this. */
    static String goingOn(CrewOffice x) {
        Picture picture = new Picture();
        picture.askAll(x);
        for (int k = 0; k < 4; k++) {
            int crew = k;
            picture.ask("bid", () -> x.bid(crew, 1, 0, 1));
        }
        picture.ask("award", () -> x.award() ? 1 : 0);
        picture.askAll(x);
        picture.ask("pairings", x::pairings);
        picture.ask("cover", x::cover);
        picture.ask("award", () -> x.award() ? 1 : 0);
        picture.askAll(x);
        // now the night away is none
        x.zone(1, -300, 20160, 0);
        picture.askAll(x);
        return picture.text.toString();
    }

    private void ask(String what, Answer answer) {
        text.append(what).append(' ');
        try {
            text.append(answer.get());
        } catch (RuntimeException e) {
            text.append(e.getClass().getSimpleName());
        }
        text.append("; ");
    }

    private void askAll(CrewOffice x) {
        for (int k = 0; k < 6; k++) {
            int n = k;
            ask("look" + n, () -> x.look(n));
            ask("check" + (n - 1), () -> x.check(n - 1));
            ask("span" + n, () -> x.span(n));
            ask("score" + n, () -> x.score(n));
            ask("local" + n, () -> x.local(n, 0));
            ask("late local" + n, () -> x.local(n, 20160));
        }
        for (int i = 0; i < x.look(3); i++) {
            int pairing = i;
            ask("covers" + i, () -> x.covers(pairing) ? 1 : 0);
            ask("owner" + i, () -> x.owner(pairing));
            for (int k = 0; k < 5; k++) {
                int place = k;
                ask("pairing" + i + "." + k, () -> x.pairing(pairing, place));
            }
        }
    }
}
