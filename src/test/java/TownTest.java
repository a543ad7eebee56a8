/** Promises 1 to 7: a new object, THE PAGE and the TOWN. */
final class TownTest extends Checks {
    private static final String[] TOO_SHORT = {"", "0", "000000", "000000;", "000000;1"};
    private static final String[] TOO_LONG = {"000000;111", "000000;11;1", "000000;11000"};
    private static final String[] FAULTY = {
        "00000a;11", "0000000;1", "000000:11", "000000;01", "000000;10", "000000;16", "-00000;11", ";00000;11"};

    public static void main(String[] args) throws IllegalAccessException {
        runAll(TownTest.class, 1, 7);
    }

    static void promise01_constants() {
        due("NONE", PaidToWhisper.NONE, NONE);
        due("UNKNOWN", PaidToWhisper.UNKNOWN, UNKNOWN);
        due("OUTSIDE", PaidToWhisper.OUTSIDE, OUTSIDE);
        due("STATE", PaidToWhisper.STATE, STATE);
        due("FULL", PaidToWhisper.FULL, FULL);
    }

    static void promise01_noTownToCount() {
        for (int what = 0; what <= 9; what++) {
            due("count(" + what + ")", new PaidToWhisper().count(what), 0);
        }
    }

    static void promise01_noTownIsUnknown() {
        unchanged("noise(0)", PaidToWhisper::new, x -> x.noise(0), UNKNOWN);
        unchanged("hum(0, 1)", PaidToWhisper::new, x -> x.hum(0, 1), UNKNOWN);
        unchanged("listener(0, 0)", PaidToWhisper::new, x -> x.listener(0, 0), UNKNOWN);
        unchanged("about(0, 0)", PaidToWhisper::new, x -> x.about(0, 0), UNKNOWN);
        unchanged("as(0, 0)", PaidToWhisper::new, x -> x.as(0, 0), UNKNOWN);
        unchanged("move(0, 0)", PaidToWhisper::new, x -> x.move(0, 0), UNKNOWN);
        unchanged("cry(0, 1)", PaidToWhisper::new, x -> x.cry(0, 1), UNKNOWN);
        unchanged("would(0, 1)", PaidToWhisper::new, x -> x.would(0, 1), UNKNOWN);
        unchanged("hush(0, 0, 1, 0)", PaidToWhisper::new, x -> x.hush(0, 0, 1, 0), UNKNOWN);
        unchanged("tell(0, true)", PaidToWhisper::new, x -> x.tell(0, true), UNKNOWN);
    }

    static void promise01_noTownIsState() {
        unchanged("town()", PaidToWhisper::new, x -> x.town(), STATE);
        unchanged("honey()", PaidToWhisper::new, x -> x.honey(), STATE);
        unchanged("day()", PaidToWhisper::new, x -> x.day(), STATE);
        unchanged("decree()", PaidToWhisper::new, x -> x.decree(), STATE);
        unchanged("least(0)", PaidToWhisper::new, x -> x.least(0), STATE);
        unchanged("cover(0, 0)", PaidToWhisper::new, x -> x.cover(0, 0), STATE);
        unchanged("where(0)", PaidToWhisper::new, x -> x.where(0), STATE);
        unchanged("ask()", PaidToWhisper::new, x -> x.ask(), STATE);
        unchanged("days(1, 0, 0)", PaidToWhisper::new, x -> x.days(1, 0, 0), STATE);
        unchanged("image()", PaidToWhisper::new, x -> x.image(), STATE);
        unchanged("restore()", PaidToWhisper::new, x -> x.restore(), STATE);
    }

    static void promise01_objectsAreApart() {
        unchanged("a town of another object", PaidToWhisper::new, x -> busy().count(9), 1);
    }

    static void promise02_codeTooSmall() {
        int[] codes = {LOW, -256 + '0', -1, 0};
        unchangedForEach(codes, PaidToWhisper::new, (x, code) -> x.letter(code), OUTSIDE);
        unchangedForEach(codes, Checks::busy, (x, code) -> x.letter(code), OUTSIDE);
    }

    static void promise02_codeTooLarge() {
        int[] codes = {127, 128, 256 + '0', 65536 + '0', HIGH};
        unchangedForEach(codes, PaidToWhisper::new, (x, code) -> x.letter(code), OUTSIDE);
        unchangedForEach(codes, Checks::busy, (x, code) -> x.letter(code), OUTSIDE);
    }

    static void promise02_leastAndMostCode() {
        PaidToWhisper x = new PaidToWhisper();
        due("letter(1)", x.letter(1), 1);
        due("letter(126)", x.letter(126), 2);
        due("count(8)", x.count(8), 2);
    }

    static void promise02_twelveAndNoMore() {
        PaidToWhisper x = new PaidToWhisper();
        for (int i = 1; i <= 12; i++) {
            due("letter " + i, x.letter('0'), i);
        }
        due("the thirteenth", x.letter('0'), FULL);
        due("count(8)", x.count(8), 12);
        unchanged("the thirteenth", Checks::full, y -> y.letter('0'), FULL);
        unchanged("the thirteenth without a town", () -> page("000000;11000"), y -> y.letter(';'), FULL);
    }

    static void promise02_codeAheadOfFull() {
        unchanged("letter(0)", Checks::full, x -> x.letter(0), OUTSIDE);
        unchanged("letter(127)", Checks::full, x -> x.letter(127), OUTSIDE);
    }

    static void promise02_comesBehind() {
        due("1, then a", page("1a").fault(), 1);
        due("a, then 1", page("a1").fault(), 0);
    }

    static void promise03_emptyPage() {
        unchanged("without a town", PaidToWhisper::new, x -> x.blank(), 0);
        unchanged("with a town", () -> town("000000;11", BOY, 0), x -> x.blank(), 0);
    }

    static void promise03_fullPage() {
        PaidToWhisper x = page("aaaaaaaaaaaa");
        due("blank()", x.blank(), 12);
        due("count(8)", x.count(8), 0);
        due("again", x.blank(), 0);
        due("there is room again", x.letter('1'), 1);
        due("what was there is gone", x.fault(), 1);
    }

    static void promise03_onlyThePage() {
        PaidToWhisper x = town("123456;91", BOY, 0);
        cried(x, 0, 3);
        long before = x.digest();
        write(x, "abc");
        due("blank()", x.blank(), 3);
        due("all else is as it was", x.digest(), before);
    }

    static void promise04_emptyPage() {
        due("fault()", page("").fault(), 0);
        due("of a page read as a town", town("000000;11").fault(), 0);
    }

    static void promise04_noNoiseDigit() {
        for (int place = 0; place < 6; place++) {
            String ahead = "555555".substring(0, place);
            due("below 0 at " + place, page(ahead + "/").fault(), place);
            due("0 at " + place, page(ahead + "0").fault(), place + 1);
            due("9 at " + place, page(ahead + "9").fault(), place + 1);
            due("above 9 at " + place, page(ahead + ":").fault(), place);
            due("; at " + place, page(ahead + ";").fault(), place);
        }
    }

    static void promise04_noSemicolon() {
        due("below ;", page("000000:").fault(), 6);
        due(";", page("000000;").fault(), 7);
        due("above ;", page("000000<").fault(), 6);
        due("a digit", page("0000000").fault(), 6);
    }

    static void promise04_noVoiceDigit() {
        due("0", page("000000;0").fault(), 7);
        due("1", page("000000;1").fault(), 8);
        due("9", page("000000;9").fault(), 8);
        due("above 9", page("000000;:").fault(), 7);
    }

    static void promise04_noLawDigit() {
        due("0", page("000000;10").fault(), 8);
        due("1", page("000000;11").fault(), 9);
        due("5", page("000000;95").fault(), 9);
        due("6", page("000000;96").fault(), 8);
    }

    static void promise04_behindATown() {
        due("a tenth", page("000000;111").fault(), 9);
        due("a tenth, ;", page("000000;11;").fault(), 9);
        due("twelve", page("000000;11000").fault(), 9);
    }

    static void promise04_firstOfSeveral() {
        due("of two", page("0a0b").fault(), 1);
        due("of twelve", page("aaaaaaaaaaaa").fault(), 0);
        due("later ones fit elsewhere", page("00000;;11").fault(), 5);
    }

    static void promise04_leastAndMostCode() {
        due("1", page("00" + (char) 1).fault(), 2);
        due("126", page("00" + (char) 126).fault(), 2);
    }

    static void promise04_changesNothing() {
        unchanged("fault()", Checks::busy, x -> x.fault(), 2);
        unchanged("of a whole town", () -> page("123456;93"), x -> x.fault(), 9);
    }

    static void promise05_leastAndMostTown() {
        due("least", page("000000;11").town(), 0);
        due("most", page("999999;95").town(), 54);
        due("each place counts", page("123456;93").town(), 21);
    }

    static void promise05_tooShort() {
        for (String text : TOO_SHORT) {
            unchanged("town() of " + text, () -> page(text), x -> x.town(), STATE);
        }
    }

    static void promise05_tooLong() {
        for (String text : TOO_LONG) {
            unchanged("town() of " + text, () -> page(text), x -> x.town(), STATE);
        }
    }

    static void promise05_faulty() {
        for (String text : FAULTY) {
            unchanged("town() of " + text, () -> page(text), x -> x.town(), STATE);
        }
    }

    static void promise05_refusedKeepsTheTownBefore() {
        unchanged("town()", Checks::busy, x -> x.town(), STATE);
        unchanged("town() of a full page", Checks::full, x -> x.town(), STATE);
    }

    static void promise05_refusedCanBeCompleted() {
        PaidToWhisper x = page("200000;1");
        due("too short", x.town(), STATE);
        due("the ninth letter", x.letter('2'), 9);
        due("town()", x.town(), 2);
    }

    static void promise05_pageIsEmptyThen() {
        PaidToWhisper x = town("000000;11");
        due("count(8)", x.count(8), 0);
        due("town() again", x.town(), STATE);
        due("count(9)", x.count(9), 1);
    }

    static void promise05_allThatWasIsGone() {
        PaidToWhisper x = busy();
        x.blank();
        write(x, "111111;45");
        due("town()", x.town(), 6);
        PaidToWhisper fresh = town("111111;45");
        for (int what = 0; what <= 8; what++) {
            due("count(" + what + ")", x.count(what), fresh.count(what));
        }
        due("count(9)", x.count(9), 2);
        due("restore()", x.restore(), STATE);
        due("about(0, 0)", x.about(0, 0), UNKNOWN);
        due("noise(3)", x.noise(3), 1);
        due("day()", x.day(), 4);
        due("listener()", x.listener(LISTENER, 1), 0);
        due("where(0), nothing is told", x.where(0), 54);
        due("about(0, 3), who came has not heard", x.about(0, 3), 0);
        due("listener()", x.listener(LISTENER, 2), 1);
        due("would(1, 9), number 1 is no goose", x.would(1, 9), 0b11);
    }

    static void promise05_sameTextIsAnotherTown() {
        PaidToWhisper x = town("000000;11", LISTENER, 0);
        x.image();
        write(x, "000000;11");
        due("town()", x.town(), 0);
        due("count(0)", x.count(0), 0);
        due("restore()", x.restore(), STATE);
    }

    static void promise06_eachPlace() {
        PaidToWhisper x = town("907654;11");
        int[] want = {9, 0, 7, 6, 5, 4};
        for (int place = 0; place < 6; place++) {
            due("noise(" + place + ")", x.noise(place), want[place]);
        }
    }

    static void promise06_noPlace() {
        unchangedForEach(NO_PLACES, Checks::busy, (x, place) -> x.noise(place), UNKNOWN);
    }

    static void promise06_noTown() {
        for (int place = 0; place < 6; place++) {
            due("noise(" + place + ")", new PaidToWhisper().noise(place), UNKNOWN);
            due("of an unread page", page("123456;11").noise(place), UNKNOWN);
        }
        due("noise(6)", new PaidToWhisper().noise(6), UNKNOWN);
    }

    static void promise06_changesNothing() {
        unchanged("noise(2)", Checks::busy, x -> x.noise(2), 2);
    }

    static void promise07_leastAndMostNoise() {
        PaidToWhisper x = town("123456;91");
        due("hum(0, 9)", x.hum(0, 9), 1);
        due("noise(0)", x.noise(0), 9);
        due("hum(0, 0)", x.hum(0, 0), 9);
        due("noise(0)", x.noise(0), 0);
        due("hum(5, 9)", x.hum(5, 9), 6);
        due("noise(5)", x.noise(5), 9);
        due("noise(1) is as it was", x.noise(1), 2);
        due("noise(4) is as it was", x.noise(4), 5);
    }

    static void promise07_asItWas() {
        unchanged("hum(2, 2)", Checks::busy, x -> x.hum(2, 2), 2);
    }

    static void promise07_noPlace() {
        unchangedForEach(NO_PLACES, Checks::busy, (x, place) -> x.hum(place, 1), UNKNOWN);
        unchanged("without a town", PaidToWhisper::new, x -> x.hum(0, 1), UNKNOWN);
    }

    static void promise07_noNoise() {
        int[] noises = {LOW, -1, 10, 256, HIGH};
        unchangedForEach(noises, Checks::busy, (x, noise) -> x.hum(0, noise), OUTSIDE);
    }

    static void promise07_placeAheadOfNoise() {
        unchanged("hum(6, 10)", Checks::busy, x -> x.hum(6, 10), UNKNOWN);
        unchanged("hum(-1, -1)", Checks::busy, x -> x.hum(-1, -1), UNKNOWN);
        unchanged("without a town", PaidToWhisper::new, x -> x.hum(0, 10), UNKNOWN);
    }

    static void promise07_matters() {
        PaidToWhisper x = town("000900;91", LISTENER, 3);
        due("as 0", x.would(3, 9), 0);
        x.hum(3, 8);
        due("as 1", x.would(3, 9), 1);
    }
}
