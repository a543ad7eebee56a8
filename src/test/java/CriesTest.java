/** Promises 12 to 16: CRIES, HONEY, DAYS and DECREES. */
final class CriesTest extends Checks {
    public static void main(String[] args) throws IllegalAccessException {
        runAll(CriesTest.class, 12, 16);
    }

    /** Whether a LISTENER at a PLACE comes to KNOW it by a CRY. */
    private static void heard(String text, int kind, int at, int place, int loud, int want) {
        PaidToWhisper x = cried(town(text, kind, at), place, loud);
        due(text + ": kind " + kind + " at " + at + ", cried at " + place + " as " + loud, x.about(0, 3), want);
    }

    static void promise12_leastAndMostLoud() {
        due("as 1", town("000000;91", LISTENER, 5).cry(5, 1), 1);
        due("as 9", town("000000;91", LISTENER, 4).cry(0, 9), 1);
    }

    static void promise12_noPlace() {
        unchangedForEach(NO_PLACES, Checks::busy, (x, place) -> x.cry(place, 1), UNKNOWN);
        unchanged("without a town", PaidToWhisper::new, x -> x.cry(0, 1), UNKNOWN);
    }

    static void promise12_noLoud() {
        unchangedForEach(NO_LOUDS, Checks::busy, (x, loud) -> x.cry(0, loud), OUTSIDE);
    }

    static void promise12_voiceIsLess() {
        for (int voice = 1; voice <= 8; voice++) {
            String text = "000000;" + voice + "1";
            int loud = voice;
            unchanged("one above " + voice, () -> town(text, LISTENER, 0), x -> x.cry(0, loud + 1), STATE);
            due("as loud as " + voice, town(text, LISTENER, 0).cry(0, loud), 1);
        }
    }

    static void promise12_noVoiceLeft() {
        for (int loud = 1; loud <= 9; loud++) {
            int cried = loud;
            unchanged("as " + loud, Checks::hoarse, x -> x.cry(2, cried), STATE);
        }
    }

    static void promise12_placeAheadOfLoud() {
        unchanged("cry(6, 0)", Checks::busy, x -> x.cry(6, 0), UNKNOWN);
        unchanged("cry(-1, 10)", Checks::busy, x -> x.cry(-1, 10), UNKNOWN);
        unchanged("without a town", PaidToWhisper::new, x -> x.cry(0, 10), UNKNOWN);
    }

    static void promise12_placeAndLoudAheadOfVoice() {
        unchanged("place", Checks::hoarse, x -> x.cry(6, 9), UNKNOWN);
        unchanged("loud", Checks::hoarse, x -> x.cry(0, 10), OUTSIDE);
        unchanged("place and loud", Checks::hoarse, x -> x.cry(6, 10), UNKNOWN);
    }

    static void promise12_eachCryMakesVoiceLess() {
        PaidToWhisper x = town("000000;31");
        for (int voice = 3; voice >= 1; voice--) {
            due("VOICE", x.count(1), voice);
            due("a whisper", x.cry(0, 1), 0);
        }
        due("VOICE at the end", x.count(1), 0);
        due("CRIES", x.count(3), 3);
    }

    static void promise12_twoLessForEachPlace() {
        for (int farther = 0; farther <= 4; farther++) {
            int just = 1 + 2 * farther;
            heard("000000;91", LISTENER, farther, 0, just, 1);
            heard("000000;91", LISTENER, 5 - farther, 5, just, 1);
            if (just > 1) {
                heard("000000;91", LISTENER, farther, 0, just - 1, 0);
                heard("000000;91", LISTENER, 5 - farther, 5, just - 1, 0);
            }
        }
        heard("000000;91", LISTENER, 5, 0, 9, 0);
        heard("000000;91", LISTENER, 0, 5, 9, 0);
    }

    static void promise12_lessTheNoiseThere() {
        heard("000800;91", LISTENER, 3, 3, 9, 1);
        heard("000800;91", LISTENER, 3, 3, 8, 0);
        heard("000900;91", LISTENER, 3, 3, 9, 0);
        heard("000400;91", LISTENER, 3, 1, 9, 1);
        heard("000500;91", LISTENER, 3, 1, 9, 0);
    }

    static void promise12_noiseElsewhereDoesNotMatter() {
        heard("900000;91", LISTENER, 1, 0, 3, 1);
        heard("990999;91", LISTENER, 2, 0, 5, 1);
    }

    static void promise12_deafAs5() {
        heard("000000;91", DEAF, 2, 2, 5, 1);
        heard("000000;91", DEAF, 2, 2, 4, 0);
        heard("001000;91", DEAF, 2, 1, 8, 1);
        heard("001000;91", DEAF, 2, 1, 7, 0);
    }

    static void promise12_gooseAs3() {
        heard("000000;91", GOOSE, 2, 2, 3, 1);
        heard("000000;91", GOOSE, 2, 2, 2, 0);
        heard("001000;91", GOOSE, 2, 1, 6, 1);
        heard("001000;91", GOOSE, 2, 1, 5, 0);
    }

    static void promise12_boyAndClerkAs1() {
        heard("100000;91", BOY, 0, 0, 2, 1);
        heard("100000;91", BOY, 0, 0, 1, 0);
        heard("100000;91", CLERK, 0, 0, 2, 1);
        heard("100000;91", CLERK, 0, 0, 1, 0);
    }

    static void promise12_gooseComesToKnowNothing() {
        PaidToWhisper x = town("000000;91", GOOSE, 0, GOOSE, 0);
        due("cry(0, 9)", x.cry(0, 9), 0);
        due("count(4)", x.count(4), 0);
    }

    static void promise12_whoKnowsItDoesNotCountAgain() {
        PaidToWhisper x = town("000000;91", LISTENER, 0, LISTENER, 1);
        due("the first", x.cry(0, 1), 1);
        due("nobody else", x.cry(0, 1), 0);
        due("the second", x.cry(0, 3), 1);
    }

    private static void repeated(String text, int crier, int kind, int at, int want) {
        PaidToWhisper x = cried(town(text, crier, 0, kind, at), 0, 1);
        due(text + ": kind " + crier + " to kind " + kind + " at " + at, x.about(1, 3), want);
    }

    static void promise12_boyCriesAs4() {
        repeated("010000;91", BOY, LISTENER, 1, 1);
        repeated("020000;91", BOY, LISTENER, 1, 0);
        repeated("000000;91", BOY, LISTENER, 2, 0);
        repeated("000000;91", BOY, DEAF, 0, 0);
        repeated("000000;91", BOY, GOOSE, 0, 1);
        repeated("000000;91", BOY, GOOSE, 1, 0);
    }

    static void promise12_clerkCriesAs7() {
        repeated("000000;91", CLERK, LISTENER, 3, 1);
        repeated("000100;91", CLERK, LISTENER, 3, 0);
        repeated("000000;91", CLERK, LISTENER, 4, 0);
        repeated("000000;91", CLERK, DEAF, 1, 1);
        repeated("010000;91", CLERK, DEAF, 1, 0);
        repeated("000000;91", CLERK, GOOSE, 2, 1);
        repeated("001000;91", CLERK, GOOSE, 2, 0);
    }

    static void promise12_othersDoNotRepeatIt() {
        PaidToWhisper x = town("000000;91", LISTENER, 0, DEAF, 0, GOOSE, 0, LISTENER, 3);
        due("cry(0, 6)", x.cry(0, 6), 2);
    }

    static void promise12_noiseWhereTheBoyIsDoesNotMatter() {
        PaidToWhisper x = town("002100;91", BOY, 2, LISTENER, 3);
        due("cry(0, 7)", x.cry(0, 7), 2);
    }

    static void promise12_boyWhoDoesNotHearItIsSilent() {
        PaidToWhisper x = town("000000;91", BOY, 2, LISTENER, 2);
        due("cry(0, 4)", x.cry(0, 4), 0);
        due("cry(0, 5)", x.cry(0, 5), 2);
    }

    static void promise12_longestChain() {
        due("in the order of numbers",
            town("000000;91", BOY, 0, BOY, 1, BOY, 2, BOY, 3, BOY, 4, LISTENER, 5).cry(0, 1), 6);
        due("against the order of numbers",
            town("000000;91", LISTENER, 5, BOY, 4, BOY, 3, BOY, 2, BOY, 1, BOY, 0).cry(0, 1), 6);
        due("broken by noise",
            town("000300;91", BOY, 0, BOY, 1, BOY, 2, BOY, 3, BOY, 4, LISTENER, 5).cry(0, 1), 3);
    }

    static void promise12_twoBoysAtOnce() {
        PaidToWhisper x = town("000000;91", BOY, 1, BOY, 3, LISTENER, 0, LISTENER, 4);
        due("each has one who hears him alone", x.cry(2, 3), 4);
    }

    static void promise12_onlyTheFirstTimeOfADecree() {
        PaidToWhisper x = cried(town("000000;91", BOY, 0), 0, 1);
        x.listener(LISTENER, 1);
        due("a second time", x.cry(0, 1), 0);
        x.day();
        due("on another day", x.cry(0, 1), 0);
        x.decree();
        due("by another decree", x.cry(0, 1), 2);
    }

    static void promise12_whatBoysCryIsNoCryOfHis() {
        PaidToWhisper x = cried(town("000000;92", BOY, 0, CLERK, 1, BOY, 2), 0, 1);
        due("VOICE", x.count(1), 8);
        due("CRIES", x.count(3), 1);
        due("LAWFUL", x.decree(), 0);
    }

    static void promise13_nobodyAndAll() {
        due("no listeners", town("000000;91").would(0, 9), 0);
        due("nobody", town("999999;91", LISTENER, 0, CLERK, 5).would(0, 9), 0);
        due("all six",
            town("000000;91", LISTENER, 0, DEAF, 0, BOY, 0, CLERK, 0, LISTENER, 0, LISTENER, 0).would(0, 5), 63);
    }

    static void promise13_leastAndMostLoudAndPlace() {
        PaidToWhisper x = town("000000;11", LISTENER, 0, LISTENER, 5, LISTENER, 4);
        due("would(0, 1)", x.would(0, 1), 0b001);
        due("would(5, 1)", x.would(5, 1), 0b010);
        due("would(0, 9)", x.would(0, 9), 0b101);
        due("would(5, 9)", x.would(5, 9), 0b110);
    }

    static void promise13_whoKnowsItNowToo() {
        PaidToWhisper x = cried(town("000000;21", LISTENER, 0, LISTENER, 5), 0, 1);
        due("far from where he is", x.would(5, 1), 0b11);
        x.decree();
        due("of the decree before", x.would(5, 1), 0b10);
    }

    static void promise13_boyHasCriedItAlready() {
        PaidToWhisper x = cried(town("000000;91", BOY, 0), 0, 1);
        x.listener(LISTENER, 1);
        due("would(0, 1)", x.would(0, 1), 0b01);
    }

    static void promise13_gooseNever() {
        due("would(0, 9)", town("000000;91", GOOSE, 0, LISTENER, 0).would(0, 9), 0b10);
        due("a goose that has heard", cried(town("000000;91", GOOSE, 0), 0, 9).would(0, 9), 0);
    }

    static void promise13_voiceDoesNotMatter() {
        due("louder than VOICE", town("000000;11", LISTENER, 4).would(0, 9), 1);
        due("no VOICE", hoarse().would(2, 9), 0b11);
    }

    static void promise13_changesNothing() {
        unchanged("would(3, 9)", Checks::busy, x -> x.would(3, 9), busy().would(3, 9));
        unchanged("would(0, 9)", Checks::full, x -> x.would(0, 9), full().would(0, 9));
    }

    static void promise13_noPlace() {
        unchangedForEach(NO_PLACES, Checks::busy, (x, place) -> x.would(place, 1), UNKNOWN);
        unchanged("without a town", PaidToWhisper::new, x -> x.would(0, 1), UNKNOWN);
    }

    static void promise13_noLoud() {
        unchangedForEach(NO_LOUDS, Checks::busy, (x, loud) -> x.would(0, loud), OUTSIDE);
    }

    static void promise13_placeAheadOfLoud() {
        unchanged("would(6, 0)", Checks::busy, x -> x.would(6, 0), UNKNOWN);
        unchanged("without a town", PaidToWhisper::new, x -> x.would(0, 10), UNKNOWN);
    }

    static void promise14_twoMoreAndNineAtMost() {
        for (int voice = 1; voice <= 9; voice++) {
            PaidToWhisper x = town("000000;" + voice + "1");
            int want = voice + 2 < 9 ? voice + 2 : 9;
            due("from " + voice, x.honey(), want);
            due("count(1)", x.count(1), want);
        }
    }

    static void promise14_fromNoVoice() {
        PaidToWhisper x = hoarse();
        due("honey()", x.honey(), 2);
        due("he can cry as 2", x.cry(2, 2), 1);
    }

    static void promise14_atNineNothingChanges() {
        unchanged("honey()", () -> town("000000;91", LISTENER, 0), x -> x.honey(), 9);
    }

    static void promise14_louderThanAtFirst() {
        PaidToWhisper x = town("000000;11", LISTENER, 1);
        x.honey();
        due("as 3", x.cry(0, 3), 1);
    }

    static void promise14_noTown() {
        unchanged("honey()", PaidToWhisper::new, x -> x.honey(), STATE);
        unchanged("with a page", () -> page("000000;11"), x -> x.honey(), STATE);
    }

    static void promise15_afterCries() {
        PaidToWhisper x = cried(cried(town("000000;31", LISTENER, 0), 0, 3), 0, 2);
        due("day()", x.day(), 3);
        due("count(1)", x.count(1), 3);
        due("count(6)", x.count(6), 2);
    }

    static void promise15_afterNoVoice() {
        PaidToWhisper x = hoarse();
        due("day()", x.day(), 1);
        due("he can cry again", x.cry(2, 1), 1);
    }

    static void promise15_afterHoney() {
        PaidToWhisper x = town("000000;81");
        x.honey();
        due("honey does not last", x.day(), 8);
        due("count(1)", x.count(1), 8);
    }

    static void promise15_decreeGoesOn() {
        PaidToWhisper x = cried(town("000000;22", LISTENER, 0, GOOSE, 5), 0, 1);
        x.tell(0, true);
        x.day();
        due("CRIES", x.count(3), 1);
        due("who knows it", x.count(4), 1);
        due("DECREES", x.count(5), 1);
        due("TOLD", x.count(7), 1);
        cried(x, 0, 1);
        due("cries of two days make it lawful", x.decree(), 1);
    }

    static void promise15_manyDays() {
        PaidToWhisper x = town("000000;71");
        for (int i = 0; i < 400; i++) {
            due("day()", x.day(), 7);
        }
        due("count(6)", x.count(6), 401);
    }

    static void promise15_noTown() {
        unchanged("day()", PaidToWhisper::new, x -> x.day(), STATE);
        unchanged("with a page", () -> page("000000;11"), x -> x.day(), STATE);
    }

    private static void lawful(int law, int cries, int want) {
        PaidToWhisper x = town("000000;9" + law);
        for (int i = 0; i < cries; i++) {
            cried(x, 0, 1);
        }
        due(cries + " cries of " + law, x.decree(), want);
    }

    static void promise16_lessOftenThanLaw() {
        for (int law = 1; law <= 5; law++) {
            lawful(law, 0, 0);
            lawful(law, law - 1, 0);
        }
    }

    static void promise16_asOftenAsLawOrMore() {
        for (int law = 1; law <= 5; law++) {
            lawful(law, law, 1);
            lawful(law, law + 1, 1);
        }
    }

    static void promise16_refusedCryDoesNotCount() {
        PaidToWhisper x = hoarse();
        x.decree();
        due("no voice", x.cry(0, 1), STATE);
        due("LAWFUL", x.decree(), 0);
    }

    static void promise16_nobodyKnowsItAndItWasNotCried() {
        PaidToWhisper x = cried(town("000000;91", LISTENER, 0, GOOSE, 0, BOY, 0), 0, 3);
        due("decree()", x.decree(), 1);
        due("DECREES", x.count(5), 2);
        due("CRIES", x.count(3), 0);
        due("who knows it", x.count(4), 0);
        for (int i = 0; i < 3; i++) {
            due("knows " + i, x.about(i, 2), 0);
            due("heard " + i, x.about(i, 3), 0);
        }
        due("the next one was not cried", x.decree(), 0);
    }

    static void promise16_allElseStays() {
        PaidToWhisper x = cried(town("123456;91", LISTENER, 0, GOOSE, 5), 0, 3);
        x.tell(0, true);
        x.day();
        x.honey();
        cried(x, 0, 1);
        x.hum(0, 7);
        x.decree();
        due("VOICE", x.count(1), 8);
        due("LAW", x.count(2), 1);
        due("DAYS", x.count(6), 2);
        due("TOLD", x.count(7), 1);
        due("NOISE", x.noise(0), 7);
        due("PLACE", x.about(1, 1), 5);
        due("LISTENERS", x.count(0), 2);
    }

    static void promise16_noTown() {
        unchanged("decree()", PaidToWhisper::new, x -> x.decree(), STATE);
        unchanged("with a page", () -> page("000000;11"), x -> x.decree(), STATE);
    }
}
