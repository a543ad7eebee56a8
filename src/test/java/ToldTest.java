/** Promises 20 to 24: what is TOLD, WHERE it was CRIED, whom to ASK, and DAYS by a SEED. */
final class ToldTest extends Checks {
    private static final int[] NOT_OF_FOUR = {LOW, -1, 4, 6, 32, 256, HIGH};

    public static void main(String[] args) throws IllegalAccessException {
        runAll(ToldTest.class, 20, 24);
    }

    static void promise20_eightAndNoMore() {
        PaidToWhisper x = town("000000;91", LISTENER, 0);
        for (int i = 1; i <= 8; i++) {
            due("told " + i, x.tell(0, true), i);
        }
        due("the ninth", x.tell(0, false), FULL);
        due("count(7)", x.count(7), 8);
        due("the ninth is not told", x.where(0), 25);
        unchanged("the ninth", Checks::full, y -> y.tell(0, false), FULL);
        unchanged("the ninth, as the others", Checks::full, y -> y.tell(4, true), FULL);
    }

    static void promise20_noListener() {
        unchangedForEach(NOT_OF_FOUR, Checks::busy, (x, who) -> x.tell(who, true), UNKNOWN);
        unchangedForEach(NOT_OF_FOUR, Checks::busy, (x, who) -> x.tell(who, false), UNKNOWN);
        unchanged("without listeners", () -> town("000000;11"), x -> x.tell(0, true), UNKNOWN);
        unchanged("without a town", PaidToWhisper::new, x -> x.tell(0, true), UNKNOWN);
    }

    static void promise20_listenerAheadOfFull() {
        unchanged("tell(6, true)", Checks::full, x -> x.tell(6, true), UNKNOWN);
        unchanged("tell(-1, false)", Checks::full, x -> x.tell(-1, false), UNKNOWN);
    }

    static void promise20_sameAndContraryAreToldToo() {
        PaidToWhisper x = town("000000;91", LISTENER, 0, GOOSE, 0);
        due("that he knows", x.tell(0, true), 1);
        due("again", x.tell(0, true), 2);
        due("that he does not", x.tell(0, false), 3);
        due("that a goose knows", x.tell(1, true), 4);
    }

    static void promise20_nobodyComesToKnowIt() {
        PaidToWhisper x = town("000000;91", LISTENER, 0);
        x.tell(0, true);
        due("knows", x.about(0, 2), 0);
        due("heard", x.about(0, 3), 0);
        due("CRIES", x.count(3), 0);
    }

    static void promise21_nothingWasTold() {
        unchanged("without a town", PaidToWhisper::new, x -> x.forget(), 0);
        unchanged("with a town", Checks::hoarse, x -> x.forget(), 0);
    }

    static void promise21_allEight() {
        PaidToWhisper x = full();
        due("forget()", x.forget(), 8);
        due("count(7)", x.count(7), 0);
        due("again", x.forget(), 0);
        due("where(0)", x.where(0), 54);
        due("there is room again", x.tell(0, false), 1);
    }

    static void promise21_bothThatHeKnowsAndNot() {
        PaidToWhisper x = town("000000;91", LISTENER, 0);
        x.tell(0, true);
        x.tell(0, false);
        due("forget()", x.forget(), 2);
        x.tell(0, false);
        due("that he knows is forgotten", x.where(0), 29);
        x.forget();
        x.tell(0, true);
        due("that he does not is forgotten", x.where(0), 25);
    }

    static void promise21_onlyWhatIsTold() {
        PaidToWhisper x = cried(town("000000;91", LISTENER, 0, GOOSE, 3), 0, 4);
        long before = x.digest();
        x.tell(0, true);
        due("forget()", x.forget(), 1);
        due("all else is as it was", x.digest(), before);
    }

    private static void whereIs(String name, PaidToWhisper x, int howMany, int least) {
        due(name + ": where(0)", x.where(0), howMany);
        due(name + ": where(1)", x.where(1), least);
    }

    static void promise22_nothingIsTold() {
        whereIs("no listeners", town("000000;11"), 54, 1);
        whereIs("a listener", town("000000;11", LISTENER, 0), 54, 1);
    }

    static void promise22_oneIsLeft() {
        PaidToWhisper first = town("800000;11", LISTENER, 0);
        first.tell(0, true);
        whereIs("PLACE 0", first, 1, 9);
        PaidToWhisper last = town("000008;11", LISTENER, 5);
        last.tell(0, true);
        whereIs("PLACE 5", last, 1, 59);
    }

    static void promise22_allButOneAreLeft() {
        PaidToWhisper x = town("800000;11", LISTENER, 0);
        x.tell(0, false);
        whereIs("all but 9", x, 53, 1);
    }

    static void promise22_noneIsLeft() {
        PaidToWhisper contrary = town("000000;91", LISTENER, 0);
        contrary.tell(0, true);
        contrary.tell(0, false);
        whereIs("he does and does not", contrary, 0, NONE);
        PaidToWhisper noisy = town("900000;91", LISTENER, 0);
        noisy.tell(0, true);
        whereIs("where nothing is heard", noisy, 0, NONE);
    }

    static void promise22_knowsAndDoesNot() {
        PaidToWhisper x = town("000000;11", LISTENER, 0);
        x.tell(0, true);
        whereIs("knows", x, 25, 1);
        x.tell(0, true);
        whereIs("told twice", x, 25, 1);
        x.forget();
        x.tell(0, false);
        whereIs("does not", x, 29, 11);
    }

    static void promise22_toldOfSeveral() {
        // Both know it by 19, 27 to 29, 37 to 39 and 49.
        PaidToWhisper both = town("000000;11", LISTENER, 0, LISTENER, 5);
        both.tell(0, true);
        both.tell(1, true);
        whereIs("both know", both, 8, 19);
        PaidToWhisper neither = town("000000;11", LISTENER, 0, LISTENER, 5);
        neither.tell(0, false);
        neither.tell(1, false);
        whereIs("neither does", neither, 12, 11);
        PaidToWhisper one = town("000000;11", LISTENER, 0, LISTENER, 5);
        one.tell(1, true);
        one.tell(0, false);
        whereIs("one of them does", one, 17, 35);
    }

    static void promise22_gooseNeverKnows() {
        PaidToWhisper x = town("000000;91", GOOSE, 0);
        x.tell(0, false);
        whereIs("does not", x, 54, 1);
        x.tell(0, true);
        whereIs("knows", x, 0, NONE);
    }

    static void promise22_voiceDoesNotMatter() {
        PaidToWhisper x = cried(town("000008;11", LISTENER, 5), 0, 1);
        x.tell(0, true);
        whereIs("no VOICE", x, 1, 59);
    }

    static void promise22_asIfNobodyHadHeard() {
        PaidToWhisper x = cried(town("000000;91", BOY, 5, DEAF, 5, LISTENER, 0), 5, 9);
        x.tell(1, true);
        x.tell(2, false);
        whereIs("they know it", x, 7, 47);
    }

    static void promise22_asTheTownIsNow() {
        PaidToWhisper x = town("000000;91", LISTENER, 0);
        x.tell(0, true);
        x.move(0, 5);
        whereIs("moved", x, 25, 19);
        x.hum(5, 8);
        whereIs("in noise", x, 1, 59);
    }

    static void promise22_changesNothing() {
        unchanged("where(0)", Checks::busy, x -> x.where(0), busy().where(0));
        unchanged("where(1)", Checks::busy, x -> x.where(1), busy().where(1));
    }

    static void promise22_noWhat() {
        int[] whats = {LOW, -1, 2, 256, HIGH};
        unchangedForEach(whats, Checks::busy, (x, what) -> x.where(what), OUTSIDE);
    }

    static void promise22_noTown() {
        unchanged("where(0)", PaidToWhisper::new, x -> x.where(0), STATE);
        unchanged("where(1)", PaidToWhisper::new, x -> x.where(1), STATE);
    }

    static void promise22_whatAheadOfTown() {
        unchanged("where(2)", PaidToWhisper::new, x -> x.where(2), OUTSIDE);
        unchanged("where(-1)", PaidToWhisper::new, x -> x.where(-1), OUTSIDE);
    }

    static void promise23_nobodyToAsk() {
        unchanged("ask()", () -> town("000000;91"), x -> x.ask(), NONE);
    }

    static void promise23_noneIsLeft() {
        PaidToWhisper x = town("900000;91", LISTENER, 0, LISTENER, 5);
        x.tell(0, true);
        due("ask()", x.ask(), NONE);
        x.forget();
        due("when it is forgotten", x.ask(), 1);
    }

    static void promise23_oneIsLeft() {
        PaidToWhisper x = town("000008;91", LISTENER, 0, LISTENER, 5);
        x.tell(1, true);
        due("of like ones the least", x.ask(), 0);
    }

    static void promise23_fewestAtWorst() {
        // Of 54: at PLACE 2 he knows it by 36, at PLACE 0 by 25, so 36 or 29 are left at worst.
        due("too many know", town("000000;91", LISTENER, 2, LISTENER, 0).ask(), 1);
        // In noise of 8 he knows it by 1, so 53 are left at worst.
        due("too few know", town("000008;91", LISTENER, 5, LISTENER, 2).ask(), 1);
        // One knows it by 30, one does not by 30: they are alike.
        due("30 who know, 30 who do not", town("001200;91", LISTENER, 2, LISTENER, 3).ask(), 0);
        due("30 who do not, 30 who know", town("001200;91", LISTENER, 3, LISTENER, 2).ask(), 0);
    }

    static void promise23_ofLikeOnesTheLeast() {
        due("two alike", town("000000;91", LISTENER, 0, LISTENER, 0).ask(), 0);
        due("two alike behind one", town("000000;91", LISTENER, 2, LISTENER, 0, LISTENER, 5).ask(), 1);
        due("a goose alone", town("000000;91", GOOSE, 0).ask(), 0);
    }

    static void promise23_lastNumber() {
        due("the sixth", town("000000;91",
            GOOSE, 0, GOOSE, 1, GOOSE, 2, GOOSE, 3, LISTENER, 2, LISTENER, 0).ask(), 5);
    }

    static void promise23_ofThoseLeft() {
        PaidToWhisper x = town("000000;91", LISTENER, 0, LISTENER, 2);
        due("at first", x.ask(), 0);
        x.tell(0, true);
        due("he was told of", x.ask(), 1);
        PaidToWhisper y = town("000000;91", LISTENER, 0);
        y.tell(0, true);
        due("nobody else is there", y.ask(), 0);
    }

    static void promise23_changesNothing() {
        unchanged("ask()", Checks::busy, x -> x.ask(), busy().ask());
        unchanged("with eight told", Checks::full, x -> x.ask(), full().ask());
        PaidToWhisper x = town("000000;91", LISTENER, 0, LISTENER, 2);
        for (int i = 0; i < 3; i++) {
            due("again and again", x.ask(), 0);
        }
    }

    static void promise23_noTown() {
        unchanged("ask()", PaidToWhisper::new, x -> x.ask(), STATE);
        unchanged("with a page", () -> page("000000;11"), x -> x.ask(), STATE);
    }

    private static void lived(PaidToWhisper x, int days, int seed, int together, int last, int then) {
        String call = days + " days by " + seed + ": ";
        due(call + 0, x.days(days, seed, 0), together);
        due(call + 1, x.days(days, seed, 1), last);
        due(call + 2, x.days(days, seed, 2), then);
    }

    static void promise24_leastAndMostDraws() {
        // By 80 it is CRIED at PLACE 0 as 1, by 47 at 0 as 9, by 32 at 5 as 1, by 69 at 5 as 9.
        lived(town("000000;11", LISTENER, 0, LISTENER, 1), 1, 80, 1, 1, 648828750);
        lived(town("800000;11", LISTENER, 0, DEAF, 3), 1, 47, 1, 1, 263614405);
        lived(town("000000;11", LISTENER, 5, LISTENER, 4), 1, 32, 1, 1, 674194334);
        lived(town("000008;11", LISTENER, 5, DEAF, 2), 1, 69, 1, 1, 1236251851);
    }

    static void promise24_leastAndMostSeed() {
        // By 0 it is CRIED at PLACE 0 as 4, by the greatest at 5 as 9.
        lived(town("300000;11", LISTENER, 0), 1, 0, 1, 1, 1406932606);
        lived(town("400000;11", LISTENER, 0), 1, 0, 0, 0, 1406932606);
        lived(town("000008;11", LISTENER, 5), 1, HIGH, 1, 1, 288979989);
    }

    static void promise24_mostDays() {
        lived(town("000000;11", LISTENER, 0), 60, 0, 34, 1, 2120877416);
        lived(town("000000;11", LISTENER, 2), 60, HIGH, 39, 1, 2141326983);
    }

    static void promise24_lastDayAndAllTogether() {
        // By 0: at PLACE 0 as 4, at 4 as 5, at 0 as 8.
        PaidToWhisper x = town("000000;11", LISTENER, 0, LISTENER, 0);
        lived(x, 1, 0, 2, 2, 1406932606);
        lived(x, 2, 0, 2, 0, 1449466924);
        due("three days together", x.days(3, 0, 0), 4);
        due("the last of three", x.days(3, 0, 1), 2);
    }

    static void promise24_anotherDecreeEachDay() {
        PaidToWhisper x = town("000000;91", CLERK, 0, DEAF, 1);
        // By 661 it is CRIED at PLACE 0 as 2, then as 3: the deaf one hears it by the clerk alone, both times.
        lived(x, 2, 661, 4, 2, 1831547665);
    }

    static void promise24_asIfNobodyHadHeard() {
        PaidToWhisper x = cried(town("000000;11", LISTENER, 0), 0, 1);
        lived(x, 1, 0, 1, 1, 1406932606);
    }

    static void promise24_geeseAndNobody() {
        lived(town("000000;11"), 1, 0, 0, 0, 1406932606);
        lived(town("000000;11", GOOSE, 0), 1, 0, 0, 0, 1406932606);
    }

    static void promise24_changesNothing() {
        for (int what = 0; what <= 2; what++) {
            int asked = what;
            unchanged("days(60, 7, " + what + ")", Checks::busy, x -> x.days(60, 7, asked), busy().days(60, 7, what));
        }
    }

    static void promise24_noDays() {
        int[] days = {LOW, -1, 0, 61, 256 + 1, HIGH};
        unchangedForEach(days, Checks::busy, (x, n) -> x.days(n, 0, 0), OUTSIDE);
    }

    static void promise24_noSeed() {
        int[] seeds = {LOW, -65536, -1};
        unchangedForEach(seeds, Checks::busy, (x, seed) -> x.days(1, seed, 0), OUTSIDE);
    }

    static void promise24_noWhat() {
        int[] whats = {LOW, -1, 3, 256, HIGH};
        unchangedForEach(whats, Checks::busy, (x, what) -> x.days(1, 0, what), OUTSIDE);
    }

    static void promise24_noTown() {
        for (int what = 0; what <= 2; what++) {
            int asked = what;
            unchanged("days(1, 0, " + what + ")", PaidToWhisper::new, x -> x.days(1, 0, asked), STATE);
        }
    }

    static void promise24_numbersAheadOfTown() {
        unchanged("days(0, 0, 0)", PaidToWhisper::new, x -> x.days(0, 0, 0), OUTSIDE);
        unchanged("days(61, 0, 0)", PaidToWhisper::new, x -> x.days(61, 0, 0), OUTSIDE);
        unchanged("days(1, -1, 0)", PaidToWhisper::new, x -> x.days(1, -1, 0), OUTSIDE);
        unchanged("days(1, 0, 3)", PaidToWhisper::new, x -> x.days(1, 0, 3), OUTSIDE);
    }
}
