import java.math.BigInteger;
import java.util.ArrayList;
import java.util.List;

/** Promises 25 to 28: the IMAGE, what is counted, and the digest. */
final class OfAllTest extends Checks {
    public static void main(String[] args) throws IllegalAccessException {
        runAll(OfAllTest.class, 25, 28);
    }

    static void promise25_firstDecree() {
        due("image()", town("000000;91").image(), 1);
    }

    static void promise25_laterDecree() {
        PaidToWhisper x = town("000000;91");
        x.decree();
        x.decree();
        due("image()", x.image(), 3);
    }

    static void promise25_onlyTheLatestIsKept() {
        PaidToWhisper x = town("000000;91", LISTENER, 0);
        due("the first", x.image(), 1);
        x.decree();
        x.move(0, 3);
        due("the second", x.image(), 2);
        x.decree();
        x.move(0, 5);
        due("restore()", x.restore(), 2);
        due("place", x.about(0, 1), 3);
    }

    static void promise25_goesOnAsItWas() {
        PaidToWhisper x = busy();
        long before = x.digest();
        due("image()", x.image(), 1);
        due("digest()", x.digest(), before);
        due("restore() at once", x.restore(), 1);
        due("digest() then", x.digest(), before);
    }

    static void promise25_noTown() {
        unchanged("image()", PaidToWhisper::new, x -> x.image(), STATE);
        unchanged("with a page", () -> page("000000;11"), x -> x.image(), STATE);
    }

    /** What a look shows is changed by a call, and is as it was by restore(). */
    private static void kept(String name, Call change, Call look) {
        PaidToWhisper x = town("123456;92", BOY, 1, GOOSE, 0, LISTENER, 5);
        cried(x, 0, 5);
        x.tell(0, true);
        long before = look.on(x);
        x.image();
        change.on(x);
        due(name + " is another", look.on(x) == before ? 0 : 1, 1);
        due("restore()", x.restore(), 1);
        due(name, look.on(x), before);
        change.on(x);
        x.restore();
        due(name + " a second time", look.on(x), before);
    }

    static void promise26_noise() {
        for (int place = 0; place < 6; place++) {
            int at = place;
            kept("NOISE of " + place, x -> x.hum(at, 9), x -> x.noise(at));
        }
    }

    static void promise26_listeners() {
        kept("LISTENERS", x -> x.listener(BOY, 3), x -> x.count(0));
        kept("who came since", x -> x.listener(BOY, 3), x -> x.about(3, 0));
    }

    static void promise26_places() {
        for (int listener = 0; listener < 3; listener++) {
            int who = listener;
            kept("PLACE of " + listener, x -> x.move(who, 3), x -> x.about(who, 1));
        }
    }

    static void promise26_whoKnows() {
        kept("who comes to know it", x -> x.cry(5, 8), x -> x.about(2, 2));
        kept("who knows it no more", x -> x.decree(), x -> x.about(0, 2));
        kept("how many know it", x -> x.decree(), x -> x.count(4));
    }

    static void promise26_heard() {
        kept("what the goose has heard", x -> x.decree(), x -> x.about(1, 3));
    }

    static void promise26_voice() {
        kept("VOICE", x -> x.cry(0, 1), x -> x.count(1));
        kept("VOICE before honey", x -> x.honey(), x -> x.count(1));
        kept("VOICE of the day", x -> x.day(), x -> x.count(1));
    }

    static void promise26_cries() {
        kept("CRIES", x -> x.cry(0, 1), x -> x.count(3));
        kept("CRIES of the decree", x -> x.decree(), x -> x.count(3));
    }

    static void promise26_decrees() {
        kept("DECREES", x -> x.decree(), x -> x.count(5));
    }

    static void promise26_days() {
        kept("DAYS", x -> x.day(), x -> x.count(6));
    }

    static void promise26_told() {
        kept("how much is TOLD", x -> x.tell(0, false), x -> x.count(7));
        kept("what is TOLD since", x -> x.tell(0, false), x -> x.where(0));
        kept("what is TOLD no more", x -> x.forget(), x -> x.where(0));
    }

    static void promise26_noListenersAndSix() {
        PaidToWhisper x = town("000000;91");
        x.image();
        for (int i = 0; i < 6; i++) {
            x.listener(GOOSE, 0);
        }
        due("restore()", x.restore(), 1);
        due("all six are gone", x.count(0), 0);
        due("number 0 names nothing", x.about(0, 0), UNKNOWN);
        for (int i = 0; i < 6; i++) {
            due("their numbers are free", x.listener(LISTENER, 0), i);
        }
        due("these are no geese", x.would(0, 1), 63);
        x.image();
        x.restore();
        due("six are there", x.count(0), 6);
        due("it is full", x.listener(LISTENER, 0), FULL);
    }

    static void promise26_whoComesAfterwardsIsNew() {
        PaidToWhisper x = town("000000;91", LISTENER, 0);
        x.image();
        x.listener(GOOSE, 0);
        x.tell(1, true);
        cried(x, 0, 9);
        x.restore();
        due("his number", x.listener(BOY, 5), 1);
        due("his kind", x.about(1, 0), BOY);
        due("he has not heard it", x.about(1, 3), 0);
        due("nothing is told of him", x.where(0), 54);
        due("he can know it", x.would(5, 1), 0b10);
    }

    static void promise26_eightTold() {
        PaidToWhisper x = full();
        x.image();
        x.forget();
        x.restore();
        due("count(7)", x.count(7), 8);
        due("it is full", x.tell(0, true), FULL);
    }

    static void promise26_noneWasKept() {
        unchanged("without a town", PaidToWhisper::new, x -> x.restore(), STATE);
        unchanged("with a town", Checks::hoarse, x -> x.restore(), STATE);
    }

    private static PaidToWhisper anotherTown(String text) {
        PaidToWhisper x = busy();
        x.blank();
        write(x, text);
        x.town();
        x.listener(BOY, 0);
        return x;
    }

    static void promise26_anotherTownSince() {
        unchanged("another town", () -> anotherTown("111111;11"), x -> x.restore(), STATE);
        unchanged("one of the same text", () -> anotherTown("102030;52"), x -> x.restore(), STATE);
    }

    static void promise26_ofTheOtherTown() {
        PaidToWhisper x = anotherTown("111111;11");
        x.decree();
        due("image()", x.image(), 2);
        x.decree();
        due("restore()", x.restore(), 2);
        due("count(9)", x.count(9), 2);
    }

    static void promise26_refusedTownIsNoOther() {
        PaidToWhisper x = busy();
        due("town()", x.town(), STATE);
        due("restore()", x.restore(), 1);
        due("who came since is gone", x.count(0), 3);
    }

    static void promise26_pageAndTownsReadAreNotKept() {
        PaidToWhisper x = page("000000;11");
        x.town();
        write(x, "12");
        x.image();
        write(x, "34");
        x.restore();
        due("letters", x.count(8), 4);
        x.blank();
        x.restore();
        due("no letters", x.count(8), 0);
        due("count(9)", x.count(9), 1);
    }

    static void promise26_firstVoiceStays() {
        PaidToWhisper x = town("000000;71");
        x.honey();
        x.image();
        x.restore();
        due("VOICE", x.count(1), 9);
        due("day()", x.day(), 7);
    }

    static void promise27_noTown() {
        PaidToWhisper x = page("abc");
        int[] want = {0, 0, 0, 0, 0, 0, 0, 0, 3, 0};
        counted(x, want);
    }

    private static void counted(PaidToWhisper x, int[] want) {
        for (int what = 0; what <= 9; what++) {
            due("count(" + what + ")", x.count(what), want[what]);
        }
    }

    static void promise27_atFirst() {
        counted(town("999999;11"), new int[] {0, 1, 1, 0, 0, 1, 1, 0, 0, 1});
        counted(town("000000;95"), new int[] {0, 9, 5, 0, 0, 1, 1, 0, 0, 1});
    }

    static void promise27_later() {
        PaidToWhisper x = town("000000;74", LISTENER, 0, GOOSE, 0, DEAF, 0);
        cried(cried(x, 0, 5), 0, 3);
        x.day();
        x.day();
        x.honey();
        x.tell(0, true);
        write(x, "abcd");
        counted(x, new int[] {3, 9, 4, 2, 2, 1, 3, 1, 4, 1});
        x.decree();
        counted(x, new int[] {3, 9, 4, 0, 0, 2, 3, 1, 4, 1});
    }

    static void promise27_mostOfAll() {
        PaidToWhisper x = town("000000;95", LISTENER, 0, LISTENER, 0, LISTENER, 0, LISTENER, 0, LISTENER, 0, LISTENER, 0);
        for (int i = 0; i < 9; i++) {
            cried(x, 0, 1);
        }
        for (int i = 0; i < 8; i++) {
            x.tell(i % 6, true);
        }
        write(x, "aaaaaaaaaaaa");
        counted(x, new int[] {6, 0, 5, 9, 6, 1, 1, 8, 12, 1});
    }

    static void promise27_geeseDoNotKnowIt() {
        due("count(4)", cried(town("000000;91", GOOSE, 0, LISTENER, 0), 0, 9).count(4), 1);
    }

    static void promise27_howOftenATownWasRead() {
        PaidToWhisper x = new PaidToWhisper();
        for (int i = 1; i <= 20; i++) {
            write(x, "000000;11");
            x.town();
            x.town();
            due("count(9)", x.count(9), i);
        }
    }

    static void promise27_noWhat() {
        int[] whats = {LOW, -1, 10, 256, HIGH};
        unchangedForEach(whats, Checks::busy, (x, what) -> x.count(what), OUTSIDE);
        unchangedForEach(whats, PaidToWhisper::new, (x, what) -> x.count(what), OUTSIDE);
    }

    static void promise27_changesNothing() {
        for (int what = 0; what <= 9; what++) {
            int asked = what;
            unchanged("count(" + what + ")", Checks::busy, x -> x.count(asked), busy().count(what));
        }
    }

    /** The numbers folded without a bound, then wrapped once. */
    private static long wrapped(long... numbers) {
        BigInteger h = BigInteger.valueOf(1009);
        for (long number : numbers) {
            h = h.multiply(BigInteger.valueOf(31)).add(BigInteger.valueOf(number));
        }
        return h.longValue();
    }

    static void promise28_noTown() {
        due("a new object", new PaidToWhisper().digest(), 827004941563628209L);
        due("the same by its numbers", new PaidToWhisper().digest(), wrapped(0, 0, 0, 0, 0, 0, 0, 0, 0, 0));
        due("with letters", page("x;").digest(), wrapped('x', ';', 0, 0, 0, 0, 0, 0, 0, 0, 2, 0));
        PaidToWhisper x = page("000000;16");
        x.town();
        due("with a town that was refused", x.digest(),
            wrapped('0', '0', '0', '0', '0', '0', ';', '1', '6', 0, 0, 0, 0, 0, 0, 0, 0, 9, 0));
    }

    static void promise28_fullPage() {
        due("twelve letters", page("~~~~~~~~~~~~").digest(),
            wrapped(126, 126, 126, 126, 126, 126, 126, 126, 126, 126, 126, 126, 0, 0, 0, 0, 0, 0, 0, 0, 12, 0));
    }

    static void promise28_noListeners() {
        due("a town", town("120000;31").digest(), wrapped(
            1, 0, 2, 0, 0, 0, 0, 0, 0, 0, 0, 0, 0, 0, 0, NONE, NONE, NONE, 54, 1, NONE,
            0, 3, 1, 0, 0, 1, 1, 0, 0, 1));
    }

    static void promise28_oneListener() {
        PaidToWhisper x = town("000000;91", LISTENER, 2);
        x.letter('7');
        due("nobody knows it", x.digest(), wrapped(
            0, 2, 0, 0, 1, 0, NONE, NONE,
            0, 1, 0, 1, 0, 1, 0, 1, 0, 1, 0, 0, 0, 0, 1, 0, NONE, NONE, 54, 1, 0, '7',
            1, 9, 1, 0, 0, 1, 1, 0, 1, 1));
        cried(x, 2, 9);
        x.tell(0, true);
        due("he knows it", x.digest(), wrapped(
            0, 2, 1, 1, 1, 0, NONE, NONE,
            0, 1, 0, 1, 0, 1, 0, 1, 0, 1, 0, 1, 0, 1, 0, NONE, NONE, NONE, 36, 5, 0, '7',
            1, 8, 1, 1, 1, 1, 1, 1, 1, 1));
    }

    static void promise28_hushAtPlace2AsLoudAs9() {
        // From PLACE 2 as 9 it comes to both as 0; from a PLACE nearer or louder one of them hears it.
        due("neither hears it", town("500003;91", LISTENER, 0, LISTENER, 5).digest(), wrapped(
            0, 0, 0, 0, 1, 0, 0, 0, 0, 5, 0, 0, 1, 0, 0, 0,
            5, 0, 0, 0, 0, 0, 0, 0, 0, 0, 3, 2, 0, 0, 2, 0, 3, NONE, 54, 1, 1,
            2, 9, 1, 0, 0, 1, 1, 0, 0, 1));
        due("both hear it", town("400002;91", LISTENER, 0, LISTENER, 5).digest(), wrapped(
            0, 0, 0, 0, 1, 0, NONE, NONE, 0, 5, 0, 0, 1, 0, NONE, NONE,
            4, 1, 0, 0, 0, 0, 0, 0, 0, 2, 2, 2, 0, 0, 1, 2, NONE, NONE, 54, 1, 1,
            2, 9, 1, 0, 0, 1, 1, 0, 0, 1));
    }

    static void promise28_noVoice() {
        PaidToWhisper x = cried(town("000000;11"), 0, 1);
        due("least() is NONE", x.digest(), wrapped(
            0, 0, 0, 0, 0, 0, 0, 0, 0, 0, 0, 0, NONE, NONE, 0, NONE, NONE, NONE, 54, 1, NONE,
            0, 0, 1, 1, 0, 1, 1, 0, 0, 1));
    }

    static void promise28_sixListeners() {
        due("all kinds", full().digest(), wrapped(numbersOf(full(), "012345678901")));
        due("busy", busy().digest(), wrapped(numbersOf(busy(), "01a")));
    }

    private static long[] numbersOf(PaidToWhisper x, String letters) {
        List<Long> n = new ArrayList<>();
        int listeners = x.count(0);
        for (int i = 0; i < listeners; i++) {
            for (int what = 0; what <= 5; what++) {
                n.add((long) x.about(i, what));
            }
            n.add((long) x.hush(i, 2, 9, 0));
            n.add((long) x.hush(i, 2, 9, 1));
        }
        for (int place = 0; place < 6; place++) {
            n.add((long) x.noise(place));
            n.add((long) x.would(place, 5));
        }
        int all = (1 << listeners) - 1;
        int[] told = {x.least(0), x.least(1), x.cover(all, 0), x.cover(all, 10), x.cover(all, 11),
            x.cover(all, 12), x.where(0), x.where(1), x.ask()};
        for (int number : told) {
            n.add((long) number);
        }
        for (char letter : letters.toCharArray()) {
            n.add((long) letter);
        }
        for (int what = 0; what <= 9; what++) {
            n.add((long) x.count(what));
        }
        return n.stream().mapToLong(Long::longValue).toArray();
    }

    static void promise28_changesNothing() {
        unchanged("with a town", Checks::busy, x -> x.digest(), busy().digest());
        unchanged("without one", PaidToWhisper::new, x -> x.digest(), new PaidToWhisper().digest());
    }
}
