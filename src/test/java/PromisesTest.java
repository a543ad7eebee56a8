/** Each promise of the document with ordinary inputs, its edges and its refusals, worked out by hand. */
public final class PromisesTest {
    private static final int NONE = -1, UNKNOWN = -101, OUTSIDE = -102, STATE = -103, FULL = -104;
    private static final int LISTENER = 0, DEAF = 1, GOOSE = 2, BOY = 3, CLERK = 4;
    private static final int LOW = Integer.MIN_VALUE, HIGH = Integer.MAX_VALUE;

    private static int wrong = 0;

    private static void due(String call, long got, long want) {
        if (got != want) {
            wrong++;
            System.out.println(call + " answered " + got + ", due is " + want);
        }
    }

    private static void write(PaidToWhisper x, String text) {
        for (int i = 0; i < text.length(); i++) {
            x.letter(text.charAt(i));
        }
    }

    private static PaidToWhisper page(String text) {
        PaidToWhisper x = new PaidToWhisper();
        write(x, text);
        return x;
    }

    private static PaidToWhisper town(String text) {
        PaidToWhisper x = page(text);
        if (x.town() < 0) {
            throw new IllegalStateException(text);
        }
        return x;
    }

    /** A town with LISTENERS given as pairs: KIND, PLACE. */
    private static PaidToWhisper town(String text, int... pairs) {
        PaidToWhisper x = town(text);
        for (int i = 0; i + 1 < pairs.length; i += 2) {
            x.listener(pairs[i], pairs[i + 1]);
        }
        return x;
    }

    public static void main(String[] args) {
        constants();
        newObject();
        letter();
        blank();
        fault();
        townRead();
        noise();
        hum();
        listener();
        about();
        as();
        move();
        cry();
        repeating();
        would();
        honey();
        day();
        decree();
        least();
        cover();
        coverOfKinds();
        hush();
        tell();
        forget();
        where();
        ask();
        days();
        image();
        restore();
        count();
        digest();
        refusalsChangeNothing();
        System.out.println(wrong == 0 ? "all promises hold" : wrong + " answers are not as due");
        if (wrong != 0) {
            System.exit(1);
        }
    }

    private static void constants() {
        due("NONE", PaidToWhisper.NONE, NONE);
        due("UNKNOWN", PaidToWhisper.UNKNOWN, UNKNOWN);
        due("OUTSIDE", PaidToWhisper.OUTSIDE, OUTSIDE);
        due("STATE", PaidToWhisper.STATE, STATE);
        due("FULL", PaidToWhisper.FULL, FULL);
    }

    private static void newObject() {
        PaidToWhisper x = new PaidToWhisper();
        for (int what = 0; what <= 9; what++) {
            due("1 count(" + what + ")", x.count(what), 0);
        }
        due("1 noise(0)", x.noise(0), UNKNOWN);
        due("1 hum(0, 1)", x.hum(0, 1), UNKNOWN);
        due("1 listener(0, 0)", x.listener(0, 0), UNKNOWN);
        due("1 cry(0, 1)", x.cry(0, 1), UNKNOWN);
        due("1 would(0, 1)", x.would(0, 1), UNKNOWN);
        due("1 honey()", x.honey(), STATE);
        due("1 day()", x.day(), STATE);
        due("1 decree()", x.decree(), STATE);
        due("1 image()", x.image(), STATE);
        due("1 restore()", x.restore(), STATE);
        due("1 forget()", x.forget(), 0);
        due("1 blank()", x.blank(), 0);
        due("1 fault()", x.fault(), 0);
        due("1 town()", x.town(), STATE);
        due("1 about(0, 0)", x.about(0, 0), UNKNOWN);
        due("1 tell(0, true)", x.tell(0, true), UNKNOWN);
    }

    private static void letter() {
        PaidToWhisper x = new PaidToWhisper();
        due("2 letter(0)", x.letter(0), OUTSIDE);
        due("2 letter(127)", x.letter(127), OUTSIDE);
        due("2 letter(-1)", x.letter(-1), OUTSIDE);
        due("2 letter(LOW)", x.letter(LOW), OUTSIDE);
        due("2 letter(HIGH)", x.letter(HIGH), OUTSIDE);
        due("2 letter(1)", x.letter(1), 1);
        due("2 letter(126)", x.letter(126), 2);
        for (int i = 3; i <= 12; i++) {
            due("2 letter " + i, x.letter(50), i);
        }
        due("2 letter 13", x.letter(50), FULL);
        due("2 letter(0) on a full page", x.letter(0), OUTSIDE);
        due("2 count(8)", x.count(8), 12);
    }

    private static void blank() {
        PaidToWhisper x = page("abc");
        due("3 blank()", x.blank(), 3);
        due("3 blank() again", x.blank(), 0);
        due("3 letter behind it", x.letter('1'), 1);
        due("3 fault()", x.fault(), 1);
    }

    private static void fault() {
        due("4 ''", page("").fault(), 0);
        due("4 '012'", page("012").fault(), 3);
        due("4 whole", page("059059;11").fault(), 9);
        due("4 'a'", page("a").fault(), 0);
        due("4 first of two", page("0a0b").fault(), 1);
        due("4 '/'", page("00/").fault(), 2);
        due("4 ':'", page("00:").fault(), 2);
        due("4 ';' too soon", page("00000;").fault(), 5);
        due("4 digit for ';'", page("0000000").fault(), 6);
        due("4 VOICE 0", page("000000;0").fault(), 7);
        due("4 VOICE 9", page("000000;9").fault(), 8);
        due("4 VOICE ':'", page("000000;:").fault(), 7);
        due("4 LAW 0", page("000000;10").fault(), 8);
        due("4 LAW 5", page("000000;15").fault(), 9);
        due("4 LAW 6", page("000000;16").fault(), 8);
        due("4 behind it", page("000000;110").fault(), 9);
    }

    private static void townRead() {
        due("5 sum", page("123456;93").town(), 21);
        due("5 most", page("999999;11").town(), 54);
        due("5 none", page("").town(), STATE);
        due("5 short", page("000000;1").town(), STATE);
        due("5 long", page("000000;111").town(), STATE);
        due("5 faulty", page("000000;16").town(), STATE);
        PaidToWhisper x = page("000000;1");
        x.town();
        due("5 page kept by a refusal", x.count(8), 8);
        due("5 page completed", x.letter('2'), 9);
        due("5 read then", x.town(), 0);
        due("5 page empty then", x.count(8), 0);

        x.listener(BOY, 0);
        x.cry(0, 1);
        x.tell(0, true);
        x.day();
        x.decree();
        x.image();
        write(x, "111111;45");
        due("5 another town", x.town(), 6);
        due("5 no listeners", x.count(0), 0);
        due("5 voice", x.count(1), 4);
        due("5 law", x.count(2), 5);
        due("5 cries", x.count(3), 0);
        due("5 knowing", x.count(4), 0);
        due("5 decrees", x.count(5), 1);
        due("5 days", x.count(6), 1);
        due("5 told", x.count(7), 0);
        due("5 towns", x.count(9), 2);
        due("5 image is gone", x.restore(), STATE);
        x.listener(LISTENER, 3);
        due("5 nobody has heard", x.about(0, 3), 0);
        due("5 nothing is told", x.where(0), 54);
    }

    private static void noise() {
        PaidToWhisper x = town("907654;11");
        int[] want = {9, 0, 7, 6, 5, 4};
        for (int place = 0; place < 6; place++) {
            due("6 noise(" + place + ")", x.noise(place), want[place]);
        }
        due("6 noise(-1)", x.noise(-1), UNKNOWN);
        due("6 noise(6)", x.noise(6), UNKNOWN);
        due("6 noise(LOW)", x.noise(LOW), UNKNOWN);
        due("6 noise(HIGH)", x.noise(HIGH), UNKNOWN);
    }

    private static void hum() {
        PaidToWhisper x = town("123456;91", LISTENER, 3);
        due("7 hum(3, 9)", x.hum(3, 9), 4);
        due("7 hum(3, 0)", x.hum(3, 0), 9);
        due("7 noise(3)", x.noise(3), 0);
        due("7 noise(2)", x.noise(2), 3);
        due("7 it matters", x.would(3, 1), 1);
        due("7 hum(3, 10)", x.hum(3, 10), OUTSIDE);
        due("7 hum(3, -1)", x.hum(3, -1), OUTSIDE);
        due("7 hum(6, 1)", x.hum(6, 1), UNKNOWN);
        due("7 hum(-1, 10)", x.hum(-1, 10), UNKNOWN);
        due("7 noise(3) still", x.noise(3), 0);
    }

    private static void listener() {
        PaidToWhisper x = town("000000;91");
        due("8 kind -1", x.listener(-1, 0), OUTSIDE);
        due("8 kind 5", x.listener(5, 0), OUTSIDE);
        due("8 place 6", x.listener(0, 6), UNKNOWN);
        due("8 place -1", x.listener(0, -1), UNKNOWN);
        due("8 both: kind first", x.listener(5, 6), OUTSIDE);
        for (int i = 0; i < 6; i++) {
            due("8 number " + i, x.listener(i % 5, 2), i);
        }
        due("8 full", x.listener(0, 0), FULL);
        due("8 kind ahead of full", x.listener(5, 0), OUTSIDE);
        due("8 place ahead of full", x.listener(0, 6), UNKNOWN);
        due("8 count(0)", x.count(0), 6);
    }

    private static void about() {
        PaidToWhisper x = town("000000;91", LISTENER, 0, DEAF, 1, GOOSE, 2, BOY, 3, CLERK, 4);
        int[] needs = {1, 5, 3, 1, 1};
        int[] cries = {0, 0, 0, 4, 7};
        for (int i = 0; i < 5; i++) {
            due("9 kind of " + i, x.about(i, 0), i);
            due("9 place of " + i, x.about(i, 1), i);
            due("9 knows " + i, x.about(i, 2), 0);
            due("9 heard " + i, x.about(i, 3), 0);
            due("9 needs " + i, x.about(i, 4), needs[i]);
            due("9 cries " + i, x.about(i, 5), cries[i]);
        }
        x.cry(2, 9);
        for (int i = 0; i < 5; i++) {
            due("9 knows then " + i, x.about(i, 2), i == GOOSE ? 0 : 1);
            due("9 heard then " + i, x.about(i, 3), 1);
        }
        due("9 what -1", x.about(0, -1), OUTSIDE);
        due("9 what 6", x.about(0, 6), OUTSIDE);
        due("9 listener 5", x.about(5, 0), UNKNOWN);
        due("9 listener -1", x.about(-1, 6), UNKNOWN);
    }

    private static void as() {
        PaidToWhisper x = town("000000;91", LISTENER, 0, DEAF, 1, GOOSE, 2, BOY, 3, CLERK, 4);
        for (int i = 0; i < 5; i++) {
            for (int kind = 0; kind < 5; kind++) {
                boolean is = kind == LISTENER || kind == i || i == CLERK && kind == BOY;
                due("10 as(" + i + ", " + kind + ")", x.as(i, kind), is ? i : NONE);
            }
        }
        due("10 kind -1", x.as(0, -1), OUTSIDE);
        due("10 kind 5", x.as(0, 5), OUTSIDE);
        due("10 listener 5", x.as(5, 5), UNKNOWN);
        due("10 listener -1", x.as(-1, 0), UNKNOWN);
    }

    private static void move() {
        PaidToWhisper x = town("000000;91", LISTENER, 0, BOY, 3);
        due("11 move(0, 5)", x.move(0, 5), 0);
        due("11 about(0, 1)", x.about(0, 1), 5);
        due("11 about(1, 1)", x.about(1, 1), 3);
        due("11 to where he is", x.move(0, 5), 5);
        due("11 would", x.would(5, 1), 1);
        due("11 place 6", x.move(0, 6), UNKNOWN);
        due("11 place -1", x.move(0, -1), UNKNOWN);
        due("11 listener 2", x.move(2, 0), UNKNOWN);
        x.cry(5, 1);
        x.move(0, 0);
        due("11 who knows it goes on knowing", x.about(0, 2), 1);
    }

    private static void cry() {
        PaidToWhisper x = town("900300;72", LISTENER, 3, DEAF, 1, GOOSE, 1, LISTENER, 1);
        due("12 noise where he stands does not matter", x.cry(0, 3), 1);
        due("12 voice", x.count(1), 6);
        due("12 cries", x.count(3), 1);
        due("12 as 0 is not heard", x.cry(3, 3), 0);
        due("12 as 1 is", x.cry(3, 4), 1);
        due("12 voice is 4", x.count(1), 4);
        due("12 louder than voice", x.cry(1, 5), STATE);
        due("12 as loud as voice", x.cry(1, 4), 0);
        due("12 goose heard", x.about(2, 3), 1);
        due("12 goose knows nothing", x.about(2, 2), 0);
        due("12 deaf not", x.about(1, 3), 0);
        x.honey();
        due("12 deaf", x.cry(1, 5), 1);
        due("12 place 6", x.cry(6, 0), UNKNOWN);
        due("12 place -1", x.cry(-1, 1), UNKNOWN);
        due("12 loud 0", x.cry(0, 0), OUTSIDE);
        due("12 loud 10", x.cry(0, 10), OUTSIDE);
        PaidToWhisper y = town("000000;11");
        due("12 last voice", y.cry(0, 1), 0);
        due("12 no voice", y.cry(0, 1), STATE);
        due("12 voice 0", y.count(1), 0);
    }

    private static void repeating() {
        PaidToWhisper x = town("000000;91", BOY, 0, LISTENER, 1, LISTENER, 2);
        due("12 boy as 4", x.would(0, 1), 0b011);
        PaidToWhisper y = town("000000;91", CLERK, 0, LISTENER, 3, LISTENER, 4, DEAF, 1);
        due("12 clerk as 7", y.would(0, 1), 0b1011);
        PaidToWhisper z = town("000000;91", LISTENER, 5, BOY, 3, BOY, 4, CLERK, 2, GOOSE, 4);
        due("12 chain", z.cry(2, 1), 4);
        due("12 goose of the chain", z.about(4, 3), 1);
        PaidToWhisper w = town("000000;91", BOY, 0);
        w.cry(0, 1);
        w.listener(LISTENER, 1);
        due("12 only the first time", w.would(0, 1), 1);
        due("12 cries by boys are none of his", w.count(3), 1);
        w.decree();
        due("12 again by another decree", w.would(0, 1), 3);
    }

    private static void would() {
        PaidToWhisper x = town("000000;21", LISTENER, 0, LISTENER, 5, GOOSE, 5);
        x.cry(0, 1);
        due("13 with those who know", x.would(5, 9), 0b011);
        due("13 louder than voice is told", x.would(0, 9), 1);
        due("13 nothing came of it", x.count(4), 1);
        due("13 voice is as it was", x.count(1), 1);
        due("13 place 6", x.would(6, 0), UNKNOWN);
        due("13 loud 0", x.would(0, 0), OUTSIDE);
        due("13 loud 10", x.would(0, 10), OUTSIDE);
        due("13 place -1", x.would(-1, 1), UNKNOWN);
    }

    private static void honey() {
        PaidToWhisper x = town("000000;61");
        due("14 8", x.honey(), 8);
        due("14 9 at most", x.honey(), 9);
        due("14 still 9", x.honey(), 9);
        due("14 count(1)", x.count(1), 9);
    }

    private static void day() {
        PaidToWhisper x = town("000000;31", LISTENER, 0);
        x.cry(0, 3);
        x.cry(0, 2);
        due("15 after cries", x.day(), 3);
        due("15 days", x.count(6), 2);
        due("15 decree goes on", x.count(4), 1);
        due("15 cries go on", x.count(3), 2);
        x.honey();
        due("15 after honey", x.day(), 3);
        due("15 days", x.count(6), 3);
    }

    private static void decree() {
        PaidToWhisper x = town("000000;92", LISTENER, 0, GOOSE, 0);
        due("16 not cried", x.decree(), 0);
        x.cry(0, 3);
        due("16 once of 2", x.decree(), 0);
        due("16 nobody knows", x.count(4), 0);
        due("16 nobody heard", x.about(1, 3), 0);
        due("16 not cried yet", x.count(3), 0);
        due("16 decrees", x.count(5), 3);
        due("16 voice stays", x.count(1), 8);
        x.cry(0, 1);
        x.cry(0, 1);
        due("16 lawful", x.decree(), 1);
        x.cry(0, 1);
        x.cry(0, 1);
        x.cry(0, 1);
        due("16 oftener", x.decree(), 1);
        due("16 days stay", x.count(6), 1);
        x.tell(0, true);
        x.decree();
        due("16 told stays", x.count(7), 1);
    }

    private static void least() {
        PaidToWhisper x = town("000000;91", LISTENER, 0, LISTENER, 1, LISTENER, 3);
        due("17 place", x.least(0), 2);
        due("17 how many", x.least(1), 0);
        PaidToWhisper y = town("000000;91", BOY, 0, LISTENER, 1, LISTENER, 2, LISTENER, 3, LISTENER, 4, LISTENER, 5);
        due("17 the boy's place is worse", y.least(0), 1);
        due("17 one", y.least(1), 1);
        y.cry(3, 1);
        due("17 where they know it", y.least(0), 3);
        due("17 those who know, too", y.least(1), 1);
        due("17 what -1", y.least(-1), OUTSIDE);
        due("17 what 2", y.least(2), OUTSIDE);
        PaidToWhisper z = town("000000;11");
        due("17 voice 1", z.least(0), 0);
        z.cry(0, 1);
        due("17 voice 0", z.least(0), NONE);
        due("17 voice 0", z.least(1), NONE);
        PaidToWhisper none = new PaidToWhisper();
        due("17 no town", none.least(0), STATE);
        due("17 no town, what", none.least(2), OUTSIDE);
    }

    private static void cover() {
        PaidToWhisper x = town("000000;31", LISTENER, 0, LISTENER, 5);
        plan("two", x, 3, 2, 0, 5, NONE);
        plan("one", x, 2, 1, 4, NONE, NONE);
        plan("nobody", x, 0, 0, NONE, NONE, NONE);
        plan("louder first", town("000000;31", LISTENER, 0, LISTENER, 3, LISTENER, 5), 7, 2, 4, 0, NONE);
        PaidToWhisper y = town("222222;51", LISTENER, 0, LISTENER, 2, LISTENER, 3, LISTENER, 5);
        plan("three", y, 15, 3, 1, 3, 5);
        y.listener(LISTENER, 4);
        plan("three for five", y, 31, 3, 3, 0, 5);
        y.listener(LISTENER, 1);
        plan("not all", y, 63, NONE, NONE, NONE, NONE);
        due("18 nothing came of it", y.count(4), 0);
        due("18 bits -1", y.cover(-1, 0), OUTSIDE);
        due("18 bits 64", y.cover(64, 0), OUTSIDE);
        due("18 bits HIGH", y.cover(HIGH, 0), OUTSIDE);
        due("18 bits of nobody", x.cover(4, 0), OUTSIDE);
        int[] outside = {-1, 1, 9, 13, LOW, HIGH};
        for (int what : outside) {
            due("18 what " + what, y.cover(1, what), OUTSIDE);
        }
        PaidToWhisper none = new PaidToWhisper();
        due("18 no town", none.cover(0, 0), STATE);
        due("18 no town, bits", none.cover(-1, 0), OUTSIDE);
        due("18 no town, what", none.cover(0, 1), OUTSIDE);
    }

    private static void coverOfKinds() {
        PaidToWhisper x = town("000000;21", LISTENER, 0, GOOSE, 0, LISTENER, 1, LISTENER, 2, BOY, 1);
        plan("goose", x, 2, NONE, NONE, NONE, NONE);
        plan("by the boy", x, 0b1101, 1, 1, NONE, NONE);
        x.cry(0, 1);
        plan("known", x, 1, 0, NONE, NONE, NONE);
        plan("voice 1", x, 4, 1, 1, NONE, NONE);
        x.cry(0, 1);
        plan("voice 0", x, 4, NONE, NONE, NONE, NONE);
        plan("voice 0, known", x, 1, 0, NONE, NONE, NONE);
        PaidToWhisper heard = town("000000;91", BOY, 0);
        heard.cry(0, 1);
        heard.listener(DEAF, 1);
        plan("boy has heard", heard, 2, 1, 0, NONE, NONE);
    }

    private static void plan(String name, PaidToWhisper x, int bits, int few, int first, int second, int third) {
        due("18 " + name + " 0", x.cover(bits, 0), few);
        due("18 " + name + " 10", x.cover(bits, 10), first);
        due("18 " + name + " 11", x.cover(bits, 11), second);
        due("18 " + name + " 12", x.cover(bits, 12), third);
    }

    private static void hush() {
        PaidToWhisper x = town("000000;91", BOY, 0, BOY, 1, LISTENER, 2);
        away("least of like", x, 2, 0, 1, 1, 1);
        away("hears it himself", x, 0, 0, 1, NONE, NONE);
        away("by the first boy", x, 1, 0, 1, 1, 1);
        away("not at all", x, 0, 2, 1, 0, 0);
        x.cry(0, 9);
        away("as if nobody had heard", x, 2, 0, 1, 1, 1);
        PaidToWhisper y = town("000000;91", CLERK, 1, DEAF, 2, CLERK, 3, GOOSE, 2);
        away("two ways", y, 1, 2, 3, 2, 0b101);
        away("goose", y, 3, 2, 9, 0, 0);
        PaidToWhisper z = town("000000;11", BOY, 0, BOY, 0, CLERK, 1, DEAF, 2);
        away("fewer ahead of less", z, 3, 0, 1, 1, 0b100);
        away("louder than voice", z, 3, 2, 9, NONE, NONE);
        due("19 nothing came of it", z.count(4), 0);
        due("19 listener 4", z.hush(4, 6, 0, 2), UNKNOWN);
        due("19 listener -1", z.hush(-1, 0, 1, 0), UNKNOWN);
        due("19 place 6", z.hush(0, 6, 0, 2), UNKNOWN);
        due("19 place -1", z.hush(0, -1, 1, 0), UNKNOWN);
        due("19 loud 0", z.hush(0, 0, 0, 0), OUTSIDE);
        due("19 loud 10", z.hush(0, 0, 10, 0), OUTSIDE);
        due("19 what -1", z.hush(0, 0, 1, -1), OUTSIDE);
        due("19 what 2", z.hush(0, 0, 1, 2), OUTSIDE);
        due("19 no town", new PaidToWhisper().hush(0, 0, 1, 0), UNKNOWN);
    }

    private static void away(String name, PaidToWhisper x, int who, int place, int loud, int few, int bits) {
        due("19 " + name + " 0", x.hush(who, place, loud, 0), few);
        due("19 " + name + " 1", x.hush(who, place, loud, 1), bits);
    }

    private static void tell() {
        PaidToWhisper x = town("000000;91", LISTENER, 0);
        due("20 listener 1", x.tell(1, true), UNKNOWN);
        due("20 listener -1", x.tell(-1, false), UNKNOWN);
        for (int i = 1; i <= 8; i++) {
            due("20 told " + i, x.tell(0, true), i);
        }
        due("20 full", x.tell(0, false), FULL);
        due("20 unknown ahead of full", x.tell(1, true), UNKNOWN);
        due("20 count(7)", x.count(7), 8);
        due("20 the ninth is not told", x.where(0), 25);
    }

    private static void forget() {
        PaidToWhisper x = town("000000;91", LISTENER, 0);
        x.tell(0, true);
        x.tell(0, false);
        due("21 forget()", x.forget(), 2);
        due("21 again", x.forget(), 0);
        due("21 where", x.where(0), 54);
        due("21 tell", x.tell(0, false), 1);
        due("21 the first is forgotten", x.where(0), 29);
    }

    private static void where() {
        PaidToWhisper x = town("000000;11", LISTENER, 0, GOOSE, 3);
        due("22 all", x.where(0), 54);
        due("22 the least of all", x.where(1), 1);
        x.tell(0, true);
        due("22 knows", x.where(0), 25);
        due("22 knows, least", x.where(1), 1);
        x.forget();
        x.tell(0, false);
        due("22 does not", x.where(0), 29);
        due("22 does not, least", x.where(1), 11);
        x.tell(1, false);
        due("22 a goose does not", x.where(0), 29);
        x.tell(0, true);
        due("22 both", x.where(0), 0);
        due("22 both, least", x.where(1), NONE);
        PaidToWhisper y = town("000000;91", BOY, 5, DEAF, 5, LISTENER, 0);
        y.cry(5, 9);
        y.tell(1, true);
        y.tell(2, false);
        due("22 as if nobody had heard", y.where(0), 7);
        due("22 as if nobody had heard, least", y.where(1), 47);
        PaidToWhisper z = town("000000;91", GOOSE, 0);
        z.tell(0, true);
        due("22 no goose knows", z.where(0), 0);
        due("22 what -1", z.where(-1), OUTSIDE);
        due("22 what 2", z.where(2), OUTSIDE);
        PaidToWhisper none = new PaidToWhisper();
        due("22 no town", none.where(0), STATE);
        due("22 no town, what", none.where(2), OUTSIDE);
    }

    private static void ask() {
        due("23 nobody to ask", town("000000;91").ask(), NONE);
        due("23 no town", new PaidToWhisper().ask(), STATE);
        PaidToWhisper x = town("000000;91", LISTENER, 2, LISTENER, 0);
        due("23 nearer to half", x.ask(), 1);
        x.listener(LISTENER, 0);
        due("23 of like ones the least", x.ask(), 1);
        PaidToWhisper y = town("000000;91", LISTENER, 0, LISTENER, 2);
        due("23 at first", y.ask(), 0);
        y.tell(0, true);
        due("23 of those left", y.ask(), 1);
        y.tell(0, false);
        due("23 none left", y.ask(), NONE);
        due("23 a goose may be asked", town("000000;91", GOOSE, 0).ask(), 0);
    }

    private static void days() {
        PaidToWhisper x = town("000000;11", LISTENER, 0, BOY, 0, GOOSE, 0);
        x.cry(0, 1);
        // From seed 0: 12345 draws 0 of 6, 1406932606 draws 3 of 9; 654583775 draws 4 of 6, 1449466924 draws 4 of 9.
        due("24 seed then", x.days(1, 0, 2), 1406932606);
        due("24 one day", x.days(1, 0, 0), 2);
        due("24 the last of one", x.days(1, 0, 1), 2);
        due("24 seed after two", x.days(2, 0, 2), 1449466924);
        due("24 two days", x.days(2, 0, 0), 2);
        due("24 the last of two", x.days(2, 0, 1), 0);
        due("24 days stay", x.count(6), 1);
        due("24 decrees stay", x.count(5), 1);
        due("24 knowing stays", x.count(4), 2);
        due("24 voice stays", x.count(1), 0);
        due("24 days 60", x.days(60, HIGH, 1) >= 0 ? 1 : 0, 1);
        due("24 days 0", x.days(0, 0, 0), OUTSIDE);
        due("24 days 61", x.days(61, 0, 0), OUTSIDE);
        due("24 seed -1", x.days(1, -1, 0), OUTSIDE);
        due("24 what -1", x.days(1, 0, -1), OUTSIDE);
        due("24 what 3", x.days(1, 0, 3), OUTSIDE);
        PaidToWhisper none = new PaidToWhisper();
        due("24 no town", none.days(1, 0, 0), STATE);
        due("24 no town, days", none.days(0, 0, 0), OUTSIDE);
    }

    private static void image() {
        PaidToWhisper x = town("000000;91");
        due("25 at first", x.image(), 1);
        x.decree();
        due("25 then", x.image(), 2);
        x.decree();
        due("25 the latest is kept", x.restore(), 2);
    }

    private static void restore() {
        PaidToWhisper x = town("123456;91", LISTENER, 0, GOOSE, 0);
        due("26 none was kept", x.restore(), STATE);
        x.cry(0, 4);
        x.day();
        x.decree();
        x.honey();
        x.cry(0, 4);
        x.tell(0, false);
        due("26 image()", x.image(), 2);
        long before = x.digest();
        x.hum(0, 9);
        x.move(0, 5);
        x.listener(GOOSE, 3);
        x.cry(2, 1);
        x.day();
        x.decree();
        x.tell(0, true);
        x.tell(2, true);
        x.letter('7');
        due("26 restore()", x.restore(), 2);
        due("26 the page goes on", x.blank(), 1);
        due("26 all else is as it was", x.digest(), before);
        due("26 those since are gone", x.about(2, 0), UNKNOWN);
        due("26 their number is free", x.listener(LISTENER, 0), 2);
        due("26 and no goose's", x.would(0, 9), 0b101);
        x.forget();
        x.decree();
        due("26 again", x.restore(), 2);
        due("26 again as it was", x.digest(), before);
        write(x, "12");
        due("26 a page that is no town", x.town(), STATE);
        due("26 is none since", x.restore(), 2);
        x.blank();
        write(x, "000000;11");
        x.town();
        due("26 another town", x.restore(), STATE);
        due("26 its decrees", x.count(5), 1);
        x.image();
        due("26 its own image", x.restore(), 1);
    }

    private static void count() {
        PaidToWhisper x = town("000000;74", LISTENER, 0, GOOSE, 0, DEAF, 0);
        x.cry(0, 5);
        x.cry(0, 3);
        x.day();
        x.day();
        x.honey();
        x.tell(0, true);
        write(x, "abcd");
        int[] want = {3, 9, 4, 2, 2, 1, 3, 1, 4, 1};
        for (int what = 0; what <= 9; what++) {
            due("27 count(" + what + ")", x.count(what), want[what]);
        }
        x.decree();
        due("27 decrees", x.count(5), 2);
        due("27 cries of this decree", x.count(3), 0);
        due("27 what -1", x.count(-1), OUTSIDE);
        due("27 what 10", x.count(10), OUTSIDE);
    }

    private static void digest() {
        PaidToWhisper x = new PaidToWhisper();
        due("28 no town", x.digest(), 1009L * power(31, 10));
        due("28 no town again", x.digest(), folded(x, ""));
        write(x, "x;");
        // 'x' is 120, ';' is 59; then count(): 2 letters of THE PAGE, all else 0.
        due("28 letters, no town", x.digest(), ((1009L * 31 + 120) * 31 + 59) * power(31, 10) + 2 * 31);
        due("28 letters", x.digest(), folded(x, "x;"));
        write(x, "000000;11");
        due("28 no town could be read", x.town(), STATE);
        due("28 a town that was refused", x.digest(), folded(x, "x;000000;11"));
        PaidToWhisper z = town("000000;11");
        due("28 town, no listeners", z.digest(), folded(z, ""));
        write(z, "x");
        z.town();
        due("28 town kept by a refusal", z.digest(), folded(z, "x"));
        PaidToWhisper y = town("102030;82", CLERK, 1, BOY, 2, LISTENER, 3, DEAF, 2, GOOSE, 2);
        due("28 town", y.digest(), folded(y, ""));
        y.cry(1, 2);
        y.tell(1, true);
        write(y, "01a");
        due("28 later", y.digest(), folded(y, "01a"));
        due("28 twice the same", y.digest(), y.digest());
    }

    private static long power(long base, int times) {
        long product = 1;
        for (int i = 0; i < times; i++) {
            product *= base;
        }
        return product;
    }

    private static long folded(PaidToWhisper x, String letters) {
        long h = 1009;
        int listeners = x.count(0);
        for (int i = 0; i < listeners; i++) {
            for (int what = 0; what <= 5; what++) {
                h = 31 * h + x.about(i, what);
            }
            h = 31 * h + x.hush(i, 2, 9, 0);
            h = 31 * h + x.hush(i, 2, 9, 1);
        }
        if (x.count(9) > 0) {
            h = foldedTown(h, x, (1 << listeners) - 1);
        }
        for (int i = 0; i < letters.length(); i++) {
            h = 31 * h + letters.charAt(i);
        }
        for (int what = 0; what <= 9; what++) {
            h = 31 * h + x.count(what);
        }
        return h;
    }

    private static long foldedTown(long start, PaidToWhisper x, int all) {
        long h = start;
        for (int place = 0; place < 6; place++) {
            h = 31 * h + x.noise(place);
            h = 31 * h + x.would(place, 5);
        }
        int[] told = {x.least(0), x.least(1), x.cover(all, 0), x.cover(all, 10), x.cover(all, 11),
            x.cover(all, 12), x.where(0), x.where(1), x.ask()};
        for (int number : told) {
            h = 31 * h + number;
        }
        return h;
    }

    private static void refusalsChangeNothing() {
        PaidToWhisper x = town("102030;22", CLERK, 1, BOY, 2, LISTENER, 3, DEAF, 2, GOOSE, 2, BOY, 5);
        x.cry(1, 2);
        for (int i = 0; i < 8; i++) {
            x.tell(1, true);
        }
        write(x, "012345678901");
        long before = x.digest();
        int[] odd = {LOW, -1, 6, 10, 64, HIGH};
        for (int n : odd) {
            x.letter(n == 10 ? 127 : n == 6 || n == 64 ? 0 : n);
            x.hum(n, 1);
            x.hum(0, n == 6 ? 11 : n);
            x.listener(n, 0);
            x.listener(0, n);
            x.move(n, 0);
            x.move(0, n);
            x.cry(n, 1);
            x.cry(0, n);
            x.tell(n, true);
        }
        x.letter(50);
        x.listener(0, 0);
        x.tell(0, true);
        x.town();
        x.restore();
        due("refusals change nothing", x.digest(), before);
    }
}
