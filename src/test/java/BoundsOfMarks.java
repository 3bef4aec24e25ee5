/** Promises 52 and 53: MARKS. */
final class BoundsOfMarks extends Bounds {
    @Sentence(promise = 52, words = "A MARK more: how many there are (7).")
    void threeMarksAndNoMore() {
        told(x.mark(), 1);
        told(x.mark(), 2);
        told(x.mark(), 3);
        refused(7, Bounds::full, c -> c.mark());
        told(x.back(), 2);
        told(x.mark(), 3);
        told(x.back(), 2);
        told(x.back(), 1);
        told(x.back(), 0);
        told(x.mark(), 1);
    }

    @Sentence(promise = 53, words = "All is taken back to the latest MARK: how many there are left (8).")
    void backWithoutAMark() {
        refused(8, Bounds::fresh, c -> c.back());
        refused(8, BoundsOfMarks::markGone, c -> c.back());
        x = full();
        told(x.back(), 2);
        told(x.back(), 1);
        told(x.back(), 0);
        same("back", x.back(), NONE);
        same("STATUS", x.status(), 8);
    }

    private static FreckleChart markGone() {
        FreckleChart c = shore();
        c.back();
        c.back();
        return c;
    }

    @Sentence(promise = 53, words = "all is taken back to the latest MARK, which is gone then.")
    void theLatestMarkFirst() {
        chart(SHORE);
        for (int i = 1; i <= 3; i++) {
            told(x.mark(), i);
            told(x.sun(0, 1), 3 + i);
        }
        for (int i = 2; i >= 0; i--) {
            told(x.sun(1, 1), 7);
            told(x.back(), i);
            told(x.cousin(0, 3), 3 + i);
            told(x.cousin(1, 3), 6);
        }
        // A mark that is gone and made again is not the old one.
        told(x.sun(0, 6), 9);
        told(x.mark(), 1);
        told(x.rain(1), 2);
        told(x.back(), 0);
        told(x.cousin(0, 3), 9);
        told(x.cousin(1, 3), 6);
    }

    /** All of a coast, as numbers. */
    private String all() {
        StringBuilder all = new StringBuilder();
        for (int what = 0; what < 9; what++) {
            all.append(x.many(what)).append(' ');
        }
        for (int i = 0; i < 15; i++) {
            all.append(x.rock(i, 0)).append(' ').append(x.rock(i, 1)).append(' ');
        }
        for (int i = 0; i < 6; i++) {
            for (int what = 0; what < 7; what++) {
                all.append(x.cousin(i, what)).append(' ');
            }
            all.append(x.shown(i)).append(' ');
        }
        return all.toString();
    }

    private void isTakenBack(Call call) {
        chart(SHORE, "sail ann 7 7 6; sail ann 7 7 5; sun ben 1; any;");
        told(x.mark(), 1);
        String due = all();
        call.on(x);
        same("STATUS of what is done", x.status(), 0);
        same("what was done is seen", all().equals(due) ? 1 : 0, 0);
        told(x.back(), 0);
        same("what is taken back", all().equals(due) ? 1 : 0, 1);
        told(x.live(0), 4);
    }

    @Sentence(promise = 53, words = "the COAST with all that became of it, the YEARS are kept as they are")
    void eachThingThatIsDone() {
        isTakenBack(c -> c.sun(0, 1));
        isTakenBack(c -> c.rain(1));
        isTakenBack(c -> of(c.veil(0, true)));
        isTakenBack(c -> of(c.veil(2, false)));
        isTakenBack(c -> c.ink(0, 0));
        isTakenBack(c -> c.wash(1));
        isTakenBack(c -> c.wreck(0, 0));
        isTakenBack(c -> c.sail(ANN, 7, 7, 6));
        isTakenBack(c -> c.sail(ANN, 7, 7, 5));
        isTakenBack(c -> c.born(0, 1, 1));
        isTakenBack(c -> of(c.rule(0)));
        isTakenBack(c -> c.live(0));
        isTakenBack(c -> c.coast(0));
        isTakenBack(c -> Texts.coast(c, "coast 6 by 5; odds 1; rock 29 deep 9;"
                + " cousin ann at 0 wide 6 high 5 tan 9 inked 0 1 2 3 4 5; cousin b at 0 wide 1"
                + " high 1; cousin d at 0 wide 1 high 1; cousin e at 0 wide 1 high 1;"));
    }

    @Sentence(promise = 53, words = "all is taken back to the latest MARK")
    void coastsOfAllSizesAreTakenBack() {
        chart("coast 6 by 2; odds 3; rock 11 deep 2; rock 0 deep 9; cousin ann at 5 wide 1 high 2"
                + " tan 1; cousin ben at 0 wide 6 high 2 tan 4 veiled inked 3;", "rain 1; any; stop;");
        told(x.sail(1, 5, 5, 1), 1);
        told(x.sail(1, 5, 11, 3), 0);
        told(x.sail(1, 11, 5, 3), 0);
        String first = some();
        told(x.mark(), 1);
        told(Texts.coast(x, "coast 1 by 5; odds 16; cousin dot at 4 wide 1 high 1 tan 9;"), 1);
        told(Texts.years(x, "sail dot 4 4 1;"), 1);
        told(x.live(0), 1);
        String second = some();
        told(x.mark(), 2);
        told(x.coast(0), 0);
        told(x.rule(0));
        String third = some();
        told(x.mark(), 3);
        told(Texts.coast(x, "coast 6 by 5;"), 0);
        told(x.back(), 2);
        same("what is taken back", some().equals(third) ? 1 : 0, 1);
        same("live", x.live(0), NONE);
        told(x.back(), 1);
        same("what is taken back", some().equals(second) ? 1 : 0, 1);
        told(x.live(0), 1);
        told(x.many(6), 2);
        told(x.back(), 0);
        same("what is taken back", some().equals(first) ? 1 : 0, 1);
        told(x.live(0), 3);
    }

    /** Less of a coast than all, for charts with many calls. */
    private String some() {
        StringBuilder some = new StringBuilder();
        for (int what = 0; what < 9; what++) {
            some.append(x.many(what)).append(' ');
        }
        for (int what = 0; what < 7; what++) {
            some.append(x.cousin(0, what)).append(' ').append(x.cousin(1, what)).append(' ');
        }
        return some.append(x.rock(0, 0)).append(' ').append(x.rock(1, 1)).toString();
    }

    @Sentence(promise = 53, words = "the YEARS are kept as they are")
    void theYearsAreTakenBack() {
        chart(SHORE);
        told(x.mark(), 1);
        told(Texts.years(x, "stop;"), 1);
        told(x.mark(), 2);
        told(Texts.years(x, "loop 2; rain 1; end;"), 2);
        told(x.mark(), 3);
        told(x.coast(0), 0);
        same("live", x.live(0), NONE);
        told(x.back(), 2);
        told(x.live(0), 3);
        told(x.cousin(0, 3), 1);
        told(x.back(), 1);
        told(x.live(0), 1);
        told(x.cousin(0, 3), 3);
        told(x.back(), 0);
        same("live", x.live(0), NONE);
        same("STATUS", x.status(), 8);
        // The names are back with the coast.
        told(Texts.years(x, "veil cyd;"), 1);
    }

    @Sentence(promise = 53, words = "MARKS, at most 3: the COAST with all that became of it")
    void aMarkIsNotOfTheRest() {
        chart(SHORE, "rain 1;");
        told(x.tray(0, 0, 1));
        told(x.mark(), 1);
        told(x.write(0, 0, 5));
        told(x.tray(1, 3, 2));
        told(x.live(0), 1);
        told(x.freckled(1));
        same("years with a fault", Texts.years(x, "rain 0;"), NONE);
        same("feed", Texts.feed(x, "odds 1;"), 20);
        told(x.back(), 0);
        told(x.read(0, 0), 5);
        told(x.read(1, 1), 0);
        told(x.lived(0), 0);
        fraction(2, 9);
        same("fault(0)", x.fault(0), 4);
        same("fault(1)", x.fault(1), 5);
        told(x.coast(7), 0);
        told(x.many(4), 1);
    }
}
