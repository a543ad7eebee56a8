/** Promises 17 to 19: LEAST, COVER and HUSH. */
final class WouldBeTest extends Checks {
    public static void main(String[] args) throws IllegalAccessException {
        runAll(WouldBeTest.class, 17, 19);
    }

    private static void leastIs(String name, PaidToWhisper x, int place, int howMany) {
        due(name + ": least(0)", x.least(0), place);
        due(name + ": least(1)", x.least(1), howMany);
    }

    static void promise17_ofLikeOnesTheLeast() {
        leastIs("no listeners", town("000000;91"), 0, 0);
        leastIs("all alike", town("000000;91",
            LISTENER, 0, LISTENER, 1, LISTENER, 2, LISTENER, 3, LISTENER, 4, LISTENER, 5), 0, 1);
        leastIs("two of them are free", town("000000;91", LISTENER, 0, LISTENER, 1, LISTENER, 3), 2, 0);
    }

    static void promise17_lastPlace() {
        leastIs("only 5 is free",
            town("000000;91", LISTENER, 0, LISTENER, 1, LISTENER, 2, LISTENER, 3, LISTENER, 4), 5, 0);
    }

    static void promise17_asLoudAs1() {
        leastIs("next to him", town("000000;91", LISTENER, 1), 0, 0);
        leastIs("in noise nobody hears it", town("111111;91", LISTENER, 0, BOY, 1), 0, 0);
    }

    static void promise17_withWhatBoysCry() {
        leastIs("the boy's place is worse", town("000000;91",
            BOY, 0, LISTENER, 1, LISTENER, 2, LISTENER, 3, LISTENER, 4, LISTENER, 5), 1, 1);
    }

    static void promise17_whoKnowsItNowToo() {
        PaidToWhisper x = town("000000;91",
            LISTENER, 0, LISTENER, 1, LISTENER, 2, LISTENER, 3, LISTENER, 4, LISTENER, 5);
        cried(x, 3, 1);
        leastIs("where he knows it already", x, 3, 1);
        leastIs("all know it", cried(cried(x, 1, 7), 4, 7), 0, 6);
    }

    static void promise17_gooseDoesNotCount() {
        leastIs("a goose", cried(town("000000;91", GOOSE, 0), 0, 9), 0, 0);
    }

    static void promise17_noVoice() {
        unchanged("least(0)", Checks::hoarse, x -> x.least(0), NONE);
        unchanged("least(1)", Checks::hoarse, x -> x.least(1), NONE);
    }

    static void promise17_voice1() {
        leastIs("VOICE 1", town("000000;11", LISTENER, 0), 1, 0);
    }

    static void promise17_changesNothing() {
        unchanged("least(0)", Checks::busy, x -> x.least(0), busy().least(0));
        unchanged("least(1)", Checks::busy, x -> x.least(1), busy().least(1));
    }

    static void promise17_noWhat() {
        int[] whats = {LOW, -1, 2, 256, HIGH};
        unchangedForEach(whats, Checks::busy, (x, what) -> x.least(what), OUTSIDE);
        unchanged("without voice", Checks::hoarse, x -> x.least(2), OUTSIDE);
    }

    static void promise17_noTown() {
        unchanged("least(0)", PaidToWhisper::new, x -> x.least(0), STATE);
        unchanged("least(1)", PaidToWhisper::new, x -> x.least(1), STATE);
    }

    static void promise17_whatAheadOfTown() {
        unchanged("least(2)", PaidToWhisper::new, x -> x.least(2), OUTSIDE);
        unchanged("least(-1)", PaidToWhisper::new, x -> x.least(-1), OUTSIDE);
    }

    private static void plan(String name, PaidToWhisper x, int bits, int few, int... places) {
        due(name + ": 0", x.cover(bits, 0), few);
        for (int i = 0; i < 3; i++) {
            due(name + ": " + (10 + i), x.cover(bits, 10 + i), i < places.length ? places[i] : NONE);
        }
    }

    static void promise18_noCry() {
        plan("nobody is wanted", town("000000;31", LISTENER, 0), 0, 0);
        plan("nobody is there", town("000000;31"), 0, 0);
        plan("he knows it", cried(town("000000;31", LISTENER, 0, LISTENER, 5), 0, 1), 1, 0);
        plan("without voice", hoarse(), 1, 0);
        plan("nobody, without voice", hoarse(), 0, 0);
    }

    static void promise18_oneCry() {
        plan("the first place", town("000000;31", LISTENER, 0), 1, 1, 0);
        plan("the last place", town("000000;11", LISTENER, 5), 1, 1, 5);
        plan("of like ones the first", town("000000;31", LISTENER, 5), 1, 1, 4);
    }

    static void promise18_twoCries() {
        PaidToWhisper x = town("000000;31", LISTENER, 0, LISTENER, 5);
        plan("two", x, 3, 2, 0, 5);
        plan("the louder one first", town("000000;31", LISTENER, 0, LISTENER, 3, LISTENER, 5), 7, 2, 4, 0);
    }

    static void promise18_threeCries() {
        plan("three", town("222222;51", LISTENER, 0, LISTENER, 2, LISTENER, 3, LISTENER, 5), 15, 3, 1, 3, 5);
        plan("three for five",
            town("222222;51", LISTENER, 0, LISTENER, 2, LISTENER, 3, LISTENER, 5, LISTENER, 4), 31, 3, 3, 0, 5);
    }

    static void promise18_fourAreTooMany() {
        // A fourth cry, as 6 at PLACE 5, would do it.
        PaidToWhisper x = town("807065;91", LISTENER, 0, LISTENER, 2, LISTENER, 4, LISTENER, 5);
        plan("three of them", x, 0b0111, 3, 0, 2, 4);
        plan("all four", x, 0b1111, NONE);
        plan("all six", town("222222;51",
            LISTENER, 0, LISTENER, 1, LISTENER, 2, LISTENER, 3, LISTENER, 4, LISTENER, 5), 63, NONE);
    }

    static void promise18_voiceEndsFirst() {
        plan("VOICE 3 is enough", town("101000;31", LISTENER, 0, LISTENER, 2, LISTENER, 4), 7, 3, 0, 2, 4);
        plan("VOICE 2 is not", town("101000;21", LISTENER, 0, LISTENER, 2, LISTENER, 4), 7, NONE);
        plan("VOICE 2 is enough for two", town("000000;21", LISTENER, 0, LISTENER, 2), 3, 2, 0, 2);
        plan("VOICE 1 is not", town("000000;11", LISTENER, 0, LISTENER, 2), 3, NONE);
        plan("no VOICE", hoarse(), 2, NONE);
    }

    static void promise18_asLoudAsVoiceIsThen() {
        plan("as 5", town("000000;51", DEAF, 0), 1, 1, 0);
        plan("as 4", town("000000;41", DEAF, 0), 1, NONE);
        plan("as 5, then as 4", town("000000;51", DEAF, 0, DEAF, 3), 3, NONE);
        plan("as 6, then as 5", town("000000;61", DEAF, 0, DEAF, 3), 3, 2, 0, 3);
    }

    static void promise18_geeseNeverKnowIt() {
        PaidToWhisper x = town("000000;91", GOOSE, 0, LISTENER, 0);
        plan("a goose", x, 1, NONE);
        plan("a goose among others", x, 3, NONE);
        plan("the other", x, 2, 1, 0);
    }

    static void promise18_withWhatBoysCry() {
        plan("by the boy", town("000000;21", LISTENER, 0, LISTENER, 1, LISTENER, 2, BOY, 1), 0b1111, 1, 1);
        PaidToWhisper heard = cried(town("000000;21", BOY, 0), 0, 1);
        heard.listener(LISTENER, 1);
        plan("he has cried it already", heard, 2, 1, 1);
    }

    static void promise18_changesNothing() {
        for (int what : new int[] {0, 10, 11, 12}) {
            unchanged("cover(5, " + what + ")", Checks::busy, x -> x.cover(5, what), busy().cover(5, what));
        }
    }

    static void promise18_noSuchListeners() {
        int[] notOfFour = {LOW, -1, 16, 17, 32, 64, 256, HIGH};
        unchangedForEach(notOfFour, Checks::busy, (x, bits) -> x.cover(bits, 0), OUTSIDE);
        unchanged("of none", () -> town("000000;11"), x -> x.cover(1, 0), OUTSIDE);
        unchanged("of six", Checks::full, x -> x.cover(64, 0), OUTSIDE);
        due("all of six", full().cover(63, 0), NONE);
    }

    static void promise18_noWhat() {
        int[] whats = {LOW, -1, 1, 2, 9, 13, 256, HIGH};
        unchangedForEach(whats, Checks::busy, (x, what) -> x.cover(1, what), OUTSIDE);
    }

    static void promise18_noTown() {
        for (int what : new int[] {0, 10, 11, 12}) {
            unchanged("cover(0, " + what + ")", PaidToWhisper::new, x -> x.cover(0, what), STATE);
        }
    }

    static void promise18_bitsAndWhatAheadOfTown() {
        unchanged("cover(-1, 0)", PaidToWhisper::new, x -> x.cover(-1, 0), OUTSIDE);
        unchanged("cover(64, 0)", PaidToWhisper::new, x -> x.cover(64, 0), OUTSIDE);
        unchanged("cover(0, 1)", PaidToWhisper::new, x -> x.cover(0, 1), OUTSIDE);
        unchanged("cover(0, 13)", PaidToWhisper::new, x -> x.cover(0, 13), OUTSIDE);
    }

    private static void away(String name, PaidToWhisper x, int who, int place, int loud, int few, int bits) {
        due(name + ": 0", x.hush(who, place, loud, 0), few);
        due(name + ": 1", x.hush(who, place, loud, 1), bits);
    }

    static void promise19_nobodyNeedGo() {
        away("he does not hear it", town("000000;91", LISTENER, 0), 0, 5, 9, 0, 0);
        away("nobody cries it so loud", town("000000;91", BOY, 0, LISTENER, 2), 1, 0, 1, 0, 0);
    }

    static void promise19_none() {
        away("he hears it himself", town("000000;91", LISTENER, 4), 0, 0, 9, NONE, NONE);
        away("he hears it himself, and by a boy", town("000000;91", BOY, 0, LISTENER, 0), 1, 0, 1, NONE, NONE);
        away("a boy hears it himself", town("000000;91", BOY, 0, BOY, 0), 0, 0, 1, NONE, NONE);
    }

    static void promise19_allOthers() {
        away("the last number is spared",
            town("000000;91", CLERK, 0, CLERK, 0, CLERK, 0, CLERK, 0, CLERK, 0, DEAF, 1), 5, 0, 1, 5, 0b011111);
        away("the first number is spared",
            town("000000;91", DEAF, 1, CLERK, 0, CLERK, 0, CLERK, 0, CLERK, 0, CLERK, 0), 0, 0, 1, 5, 0b111110);
    }

    static void promise19_ofLikeOnesTheLeast() {
        away("either boy of a chain", town("000000;91", BOY, 0, BOY, 1, LISTENER, 2), 2, 0, 1, 1, 0b001);
        away("either boy, numbered backwards", town("000000;91", LISTENER, 2, BOY, 1, BOY, 0), 0, 0, 1, 1, 0b010);
    }

    static void promise19_fewerAheadOfLess() {
        away("the clerk, not both boys", town("000000;91", BOY, 0, BOY, 0, CLERK, 1, DEAF, 2), 3, 0, 1, 1, 0b100);
    }

    static void promise19_twoWays() {
        away("both clerks", town("000000;91", CLERK, 1, DEAF, 2, CLERK, 3, GOOSE, 2), 1, 2, 3, 2, 0b101);
    }

    static void promise19_whoIsAwayHearsNothing() {
        PaidToWhisper x = town("000000;91", BOY, 0, CLERK, 1, DEAF, 2);
        away("the clerk is told by the boy", x, 1, 0, 1, 1, 0b001);
    }

    static void promise19_goose() {
        away("it never knows", town("000000;91", GOOSE, 2, CLERK, 2), 0, 2, 9, 0, 0);
    }

    static void promise19_asIfNobodyHadHeard() {
        PaidToWhisper x = cried(town("000000;91", BOY, 0, BOY, 1, LISTENER, 2), 0, 9);
        away("all know it", x, 2, 0, 1, 1, 0b001);
        away("he knows it, and would not hear it", x, 2, 5, 1, 0, 0);
    }

    static void promise19_voiceDoesNotMatter() {
        away("louder than VOICE", town("000000;11", LISTENER, 4), 0, 0, 9, NONE, NONE);
        away("no VOICE", hoarse(), 0, 0, 1, NONE, NONE);
        away("no VOICE, not heard", hoarse(), 1, 0, 4, 0, 0);
    }

    static void promise19_changesNothing() {
        unchanged("hush(2, 1, 1, 0)", Checks::busy, x -> x.hush(2, 1, 1, 0), busy().hush(2, 1, 1, 0));
        unchanged("hush(2, 1, 1, 1)", Checks::busy, x -> x.hush(2, 1, 1, 1), busy().hush(2, 1, 1, 1));
    }

    static void promise19_noListener() {
        int[] notOfFour = {LOW, -1, 4, 6, 32, 256, HIGH};
        unchangedForEach(notOfFour, Checks::busy, (x, who) -> x.hush(who, 0, 1, 0), UNKNOWN);
        unchanged("number 6 of six", Checks::full, x -> x.hush(6, 0, 1, 0), UNKNOWN);
        unchanged("without listeners", () -> town("000000;11"), x -> x.hush(0, 0, 1, 0), UNKNOWN);
        unchanged("without a town", PaidToWhisper::new, x -> x.hush(0, 0, 1, 0), UNKNOWN);
    }

    static void promise19_noPlace() {
        unchangedForEach(NO_PLACES, Checks::busy, (x, place) -> x.hush(0, place, 1, 0), UNKNOWN);
    }

    static void promise19_noLoud() {
        unchangedForEach(NO_LOUDS, Checks::busy, (x, loud) -> x.hush(0, 0, loud, 0), OUTSIDE);
    }

    static void promise19_noWhat() {
        int[] whats = {LOW, -1, 2, 256, HIGH};
        unchangedForEach(whats, Checks::busy, (x, what) -> x.hush(0, 0, 1, what), OUTSIDE);
    }

    static void promise19_listenerAndPlaceAheadOfLoudAndWhat() {
        unchanged("hush(4, 0, 0, 2)", Checks::busy, x -> x.hush(4, 0, 0, 2), UNKNOWN);
        unchanged("hush(0, 6, 10, -1)", Checks::busy, x -> x.hush(0, 6, 10, -1), UNKNOWN);
        unchanged("hush(-1, 6, 0, 2)", Checks::busy, x -> x.hush(-1, 6, 0, 2), UNKNOWN);
        unchanged("without a town", PaidToWhisper::new, x -> x.hush(0, 0, 0, 2), UNKNOWN);
    }
}
