/** Promises 8 to 11: LISTENERS of KINDS. */
final class ListenersTest extends Checks {
    private static final int[] NO_KINDS = {LOW, -1, 5, 256, HIGH};
    private static final int[] NOT_OF_THREE = {LOW, -1, 3, 6, 256, HIGH};

    public static void main(String[] args) throws IllegalAccessException {
        runAll(ListenersTest.class, 8, 11);
    }

    private static PaidToWhisper three() {
        return cried(town("000000;91", BOY, 0, LISTENER, 5, GOOSE, 0), 0, 3);
    }

    private static PaidToWhisper ofEachKind() {
        return town("000000;91", LISTENER, 0, DEAF, 1, GOOSE, 2, BOY, 3, CLERK, 4);
    }

    static void promise08_leastAndMostKindAndPlace() {
        PaidToWhisper x = town("000000;91");
        due("listener(0, 0)", x.listener(LISTENER, 0), 0);
        due("listener(4, 5)", x.listener(CLERK, 5), 1);
        due("kind of 0", x.about(0, 0), LISTENER);
        due("place of 0", x.about(0, 1), 0);
        due("kind of 1", x.about(1, 0), CLERK);
        due("place of 1", x.about(1, 1), 5);
        due("count(0)", x.count(0), 2);
    }

    static void promise08_noKind() {
        unchangedForEach(NO_KINDS, Checks::busy, (x, kind) -> x.listener(kind, 0), OUTSIDE);
    }

    static void promise08_noPlace() {
        unchangedForEach(NO_PLACES, Checks::busy, (x, place) -> x.listener(LISTENER, place), UNKNOWN);
        unchanged("without a town", PaidToWhisper::new, x -> x.listener(LISTENER, 0), UNKNOWN);
    }

    static void promise08_kindAheadOfPlace() {
        unchanged("listener(5, 6)", Checks::busy, x -> x.listener(5, 6), OUTSIDE);
        unchanged("listener(-1, -1)", Checks::busy, x -> x.listener(-1, -1), OUTSIDE);
        unchanged("without a town", PaidToWhisper::new, x -> x.listener(5, 0), OUTSIDE);
    }

    static void promise08_sixAndNoMore() {
        PaidToWhisper x = town("000000;91");
        for (int i = 0; i < 6; i++) {
            due("number " + i, x.listener(i % 5, i), i);
        }
        due("the seventh", x.listener(LISTENER, 0), FULL);
        due("count(0)", x.count(0), 6);
        unchanged("the seventh", Checks::full, y -> y.listener(LISTENER, 0), FULL);
    }

    static void promise08_kindAndPlaceAheadOfFull() {
        unchanged("kind", Checks::full, x -> x.listener(5, 0), OUTSIDE);
        unchanged("place", Checks::full, x -> x.listener(LISTENER, 6), UNKNOWN);
        unchanged("both", Checks::full, x -> x.listener(-1, 6), OUTSIDE);
    }

    static void promise08_severalAtOnePlace() {
        PaidToWhisper x = town("000000;91", LISTENER, 3, LISTENER, 3, LISTENER, 3, LISTENER, 3, LISTENER, 3, LISTENER, 3);
        due("all six hear it there", x.cry(3, 1), 6);
    }

    static void promise08_whoComesLateHasNotHeardIt() {
        PaidToWhisper x = cried(town("000000;91", LISTENER, 0), 0, 9);
        due("number", x.listener(LISTENER, 0), 1);
        due("knows", x.about(1, 2), 0);
        due("heard", x.about(1, 3), 0);
        due("count(4)", x.count(4), 1);
    }

    static void promise08_anotherTownHasRoomAgain() {
        PaidToWhisper x = full();
        x.blank();
        write(x, "000000;11");
        x.town();
        due("number", x.listener(CLERK, 5), 0);
    }

    static void promise09_eachKind() {
        PaidToWhisper x = ofEachKind();
        int[] needs = {1, 5, 3, 1, 1};
        int[] cries = {0, 0, 0, 4, 7};
        for (int i = 0; i < 5; i++) {
            due("kind of " + i, x.about(i, 0), i);
            due("place of " + i, x.about(i, 1), i);
            due("knows " + i, x.about(i, 2), 0);
            due("heard " + i, x.about(i, 3), 0);
            due("needs " + i, x.about(i, 4), needs[i]);
            due("cries " + i, x.about(i, 5), cries[i]);
        }
    }

    static void promise09_aGooseHasHeardAndNeverKnows() {
        PaidToWhisper x = cried(ofEachKind(), 2, 9);
        for (int i = 0; i < 5; i++) {
            due("knows " + i, x.about(i, 2), i == GOOSE ? 0 : 1);
            due("heard " + i, x.about(i, 3), 1);
        }
    }

    static void promise09_noListener() {
        unchangedForEach(NOT_OF_THREE, ListenersTest::three, (x, who) -> x.about(who, 0), UNKNOWN);
        unchanged("without listeners", () -> town("000000;11"), x -> x.about(0, 0), UNKNOWN);
        unchanged("without a town", PaidToWhisper::new, x -> x.about(0, 0), UNKNOWN);
        unchanged("number 6 of six", Checks::full, x -> x.about(6, 0), UNKNOWN);
    }

    static void promise09_noWhat() {
        int[] whats = {LOW, -1, 6, 256, HIGH};
        unchangedForEach(whats, Checks::busy, (x, what) -> x.about(0, what), OUTSIDE);
    }

    static void promise09_listenerAheadOfWhat() {
        unchanged("about(3, 6)", ListenersTest::three, x -> x.about(3, 6), UNKNOWN);
        unchanged("about(-1, -1)", ListenersTest::three, x -> x.about(-1, -1), UNKNOWN);
        unchanged("without a town", PaidToWhisper::new, x -> x.about(0, 6), UNKNOWN);
    }

    static void promise09_changesNothing() {
        for (int what = 0; what <= 5; what++) {
            int asked = what;
            unchanged("about(0, " + what + ")", Checks::busy, x -> x.about(0, asked), busy().about(0, what));
        }
    }

    static void promise10_eachKindAsEach() {
        PaidToWhisper x = ofEachKind();
        int[][] want = {
            {0, NONE, NONE, NONE, NONE},
            {1, 1, NONE, NONE, NONE},
            {2, NONE, 2, NONE, NONE},
            {3, NONE, NONE, 3, NONE},
            {4, NONE, NONE, 4, 4}};
        for (int i = 0; i < 5; i++) {
            for (int kind = 0; kind < 5; kind++) {
                due("as(" + i + ", " + kind + ")", x.as(i, kind), want[i][kind]);
            }
        }
    }

    static void promise10_changesNothing() {
        unchanged("a clerk as a boy", Checks::busy, x -> x.as(0, BOY), 0);
        unchanged("a goose as a boy", Checks::busy, x -> x.as(1, BOY), NONE);
    }

    static void promise10_noListener() {
        unchangedForEach(NOT_OF_THREE, ListenersTest::three, (x, who) -> x.as(who, LISTENER), UNKNOWN);
        unchanged("without a town", PaidToWhisper::new, x -> x.as(0, LISTENER), UNKNOWN);
        unchanged("number 6 of six", Checks::full, x -> x.as(6, LISTENER), UNKNOWN);
    }

    static void promise10_noKind() {
        unchangedForEach(NO_KINDS, ListenersTest::three, (x, kind) -> x.as(0, kind), OUTSIDE);
    }

    static void promise10_listenerAheadOfKind() {
        unchanged("as(3, 5)", ListenersTest::three, x -> x.as(3, 5), UNKNOWN);
        unchanged("as(-1, -1)", ListenersTest::three, x -> x.as(-1, -1), UNKNOWN);
        unchanged("without a town", PaidToWhisper::new, x -> x.as(0, 5), UNKNOWN);
    }

    static void promise11_fromEndToEnd() {
        PaidToWhisper x = town("000000;91", LISTENER, 0, BOY, 3);
        due("to the last place", x.move(0, 5), 0);
        due("he is there", x.about(0, 1), 5);
        due("the other one is not", x.about(1, 1), 3);
        due("he hears it there", x.would(5, 1), 1);
        due("to the first place", x.move(0, 0), 5);
        due("he is there", x.about(0, 1), 0);
    }

    static void promise11_toWhereHeIs() {
        unchanged("move(0, 0)", ListenersTest::three, x -> x.move(0, 0), 0);
        unchanged("move(1, 5)", ListenersTest::three, x -> x.move(1, 5), 5);
    }

    static void promise11_toWhereAnotherIs() {
        PaidToWhisper x = town("000000;91", LISTENER, 0, LISTENER, 3);
        due("move(0, 3)", x.move(0, 3), 0);
        due("both hear it", x.would(3, 1), 3);
    }

    static void promise11_noListener() {
        unchangedForEach(NOT_OF_THREE, ListenersTest::three, (x, who) -> x.move(who, 1), UNKNOWN);
        unchanged("without a town", PaidToWhisper::new, x -> x.move(0, 1), UNKNOWN);
        unchanged("number 6 of six", Checks::full, x -> x.move(6, 1), UNKNOWN);
    }

    static void promise11_noPlace() {
        unchangedForEach(NO_PLACES, ListenersTest::three, (x, place) -> x.move(1, place), UNKNOWN);
    }

    static void promise11_neither() {
        unchanged("move(3, 6)", ListenersTest::three, x -> x.move(3, 6), UNKNOWN);
    }

    static void promise11_knowsItStill() {
        PaidToWhisper x = three();
        x.move(0, 5);
        x.move(2, 5);
        due("the boy knows", x.about(0, 2), 1);
        due("the goose has heard", x.about(2, 3), 1);
        due("who is there has not heard", x.about(1, 3), 0);
        x.move(1, 4);
        due("the boy does not cry it a second time", x.cry(5, 1), 0);
    }
}
