import java.util.NoSuchElementException;

/** Promises 9 to 17: pours. */
public final class PoursTest {
    private static final Checks CHECKS = new Checks();
    private static final Class<NoSuchElementException> MISSING = NoSuchElementException.class;
    private static final Class<IllegalArgumentException> ARGUMENT = IllegalArgumentException.class;
    private static final Class<IllegalStateException> STATE = IllegalStateException.class;

    private PoursTest() {
    }

    public static void main(String[] args) {
        promise9Plan();
        promise9Refusals();
        promise10Move();
        promise11Cancel();
        promise12Delay();
        promise12Refusals();
        promise13Pours();
        promise14EndOf();
        promise15ColdJoints();
        promise15Order();
        promise16Struck();
        promise17FreeFrom();
        CHECKS.end("PoursTest");
    }

    private static void promise9Plan() {
        FormworkYard yard = new FormworkYard();
        due("plan(0, 1, 1, 1)", yard.plan(0, 1, 1, 1), 0);
        due("plan(900, 200, 30, 100)", yard.plan(900, 200, 30, 100), 1);
        due("endOf(0)", yard.endOf(0), 1);
        due("endOf(1)", yard.endOf(1), 920);
        due("struck(0), of strength 1", yard.struck(0), 2);
        due("struck(1), of strength 100", yard.struck(1), FormworkYard.NONE);
        due("plan(0, 1, 30, 1) beyond the panels", yard.plan(0, 1, 30, 1), 2);
        for (int number = 3; number < 10; number++) {
            due("plan(5, 5, 5, 5)", yard.plan(5, 5, 5, 5), number);
        }
        yard.cancel(7);
        yard.cancel(0);
        yard.cancel(4);
        due("plan, 0, 4 and 7 being free", yard.plan(6, 5, 5, 5), 0);
        due("plan, 4 and 7 being free", yard.plan(6, 5, 5, 5), 4);
        due("plan, 7 being free", yard.plan(6, 5, 5, 5), 7);
        due("pours()", yard.pours(), 10);
    }

    private static void promise9Refusals() {
        // all ten pours are there: a wrong argument is told first
        unchanged("plan(-1, 5, 5, 5)", ARGUMENT, y -> y.plan(-1, 5, 5, 5));
        unchanged("plan(901, 5, 5, 5)", ARGUMENT, y -> y.plan(901, 5, 5, 5));
        unchanged("plan(5, 0, 5, 5)", ARGUMENT, y -> y.plan(5, 0, 5, 5));
        unchanged("plan(5, 201, 5, 5)", ARGUMENT, y -> y.plan(5, 201, 5, 5));
        unchanged("plan(5, 5, 0, 5)", ARGUMENT, y -> y.plan(5, 5, 0, 5));
        unchanged("plan(5, 5, 31, 5)", ARGUMENT, y -> y.plan(5, 5, 31, 5));
        unchanged("plan(5, 5, 5, 0)", ARGUMENT, y -> y.plan(5, 5, 5, 0));
        unchanged("plan(5, 5, 5, 101)", ARGUMENT, y -> y.plan(5, 5, 5, 101));
        unchanged("plan(5, 5, 5, 5)", STATE, y -> y.plan(5, 5, 5, 5));
        FormworkYard free = new FormworkYard();
        CHECKS.refused("plan(901, 5, 5, 5) in a free yard", ARGUMENT, () -> free.plan(901, 5, 5, 5));
        CHECKS.refused("plan(5, 201, 5, 5) in a free yard", ARGUMENT, () -> free.plan(5, 201, 5, 5));
        CHECKS.refused("plan(5, 5, 31, 5) in a free yard", ARGUMENT, () -> free.plan(5, 5, 31, 5));
        CHECKS.refused("plan(5, 5, 5, 101) in a free yard", ARGUMENT, () -> free.plan(5, 5, 5, 101));
        due("pours() behind refused plans", free.pours(), 0);
    }

    private static void promise10Move() {
        FormworkYard yard = new FormworkYard();
        yard.plan(50, 30, 6, 25);
        yard.delay(0, 10, 3);
        due("move(0, 0)", yard.move(0, 0), 50);
        due("endOf(0) behind move to 0", yard.endOf(0), 6);
        due("coldJoints(0) behind move to 0", yard.coldJoints(0), 1);
        due("need(0)", yard.need(0), 6);
        due("need(50)", yard.need(50), 0);
        due("move(0, 900)", yard.move(0, 900), 0);
        due("endOf(0) behind move to 900", yard.endOf(0), 906);
        due("struck(0) behind move to 900", yard.struck(0), 923);
        due("need(0) behind move to 900", yard.need(0), 0);
        due("need(898)", yard.need(898), 6);
        due("need(897)", yard.need(897), 0);
        due("move(0, 900) again", yard.move(0, 900), 900);
        due("delay(0, 10, 3)", yard.delay(0, 10, 3), 2);
        unchanged("move(-1, 5)", MISSING, y -> y.move(-1, 5));
        unchanged("move(10, 5)", MISSING, y -> y.move(10, 5));
        unchanged("move(10, 901)", MISSING, y -> y.move(10, 901));
        unchanged("move(0, -1)", ARGUMENT, y -> y.move(0, -1));
        unchanged("move(0, 901)", ARGUMENT, y -> y.move(0, 901));
        CHECKS.refused("move(1, 5) without pour 1", MISSING, () -> yard.move(1, 5));
        CHECKS.refused("move(1, 901) without pour 1", MISSING, () -> yard.move(1, 901));
    }

    private static void promise11Cancel() {
        FormworkYard yard = new FormworkYard();
        yard.plan(10, 30, 6, 25);
        yard.plan(10, 30, 30, 25);
        yard.delay(0, 3, 4);
        due("need(10)", yard.need(10), 36);
        due("cancel(1), which does not get so many", yard.cancel(1), 30);
        due("need(10) behind cancel(1)", yard.need(10), 6);
        due("cancel(0)", yard.cancel(0), 6);
        due("pours()", yard.pours(), 0);
        due("need(10) behind cancel(0)", yard.need(10), 0);
        CHECKS.refused("cancel(0) again", MISSING, () -> yard.cancel(0));
        due("plan", yard.plan(10, 30, 2, 25), 0);
        due("endOf(0), new without breaks", yard.endOf(0), 13);
        due("delay(0, 1, 1)", yard.delay(0, 1, 1), 1);
        unchanged("cancel(-1)", MISSING, y -> y.cancel(-1));
        unchanged("cancel(10)", MISSING, y -> y.cancel(10));
        unchanged("cancel(max)", MISSING, y -> y.cancel(Integer.MAX_VALUE));
        unchanged("cancel(min)", MISSING, y -> y.cancel(Integer.MIN_VALUE));
    }

    private static void promise12Delay() {
        FormworkYard yard = new FormworkYard();
        yard.plan(10, 30, 6, 25);
        due("delay(0, 29, 9)", yard.delay(0, 29, 9), 1);
        due("endOf(0) with 9 hours", yard.endOf(0), 22);
        due("delay(0, 0, 1)", yard.delay(0, 0, 1), 2);
        due("endOf(0) with 10 hours", yard.endOf(0), 23);
        due("delay(0, 15, 2)", yard.delay(0, 15, 2), 3);
        due("delay(0, 15, 3)", yard.delay(0, 15, 3), 4);
        due("endOf(0) with 15 hours", yard.endOf(0), 28);
        due("struck(0)", yard.struck(0), 45);
        CHECKS.refused("delay(0, 0, 1), a fifth", STATE, () -> yard.delay(0, 0, 1));
        due("endOf(0) behind a refused break", yard.endOf(0), 28);
        yard.plan(10, 1, 1, 1);
        due("delay(1, 0, 9) of a volume of 1", yard.delay(1, 0, 9), 1);
        due("endOf(1)", yard.endOf(1), 20);
        CHECKS.refused("delay(1, 1, 9) of a volume of 1", ARGUMENT, () -> yard.delay(1, 1, 9));
    }

    private static void promise12Refusals() {
        unchanged("delay(-1, 0, 1)", MISSING, y -> y.delay(-1, 0, 1));
        unchanged("delay(10, 0, 1)", MISSING, y -> y.delay(10, 0, 1));
        unchanged("delay(10, -1, 10)", MISSING, y -> y.delay(10, -1, 10));
        // pour 0 has a volume of 15 and 4 breaks, pour 1 a volume of 28 and one
        unchanged("delay(0, 15, 1)", ARGUMENT, y -> y.delay(0, 15, 1));
        unchanged("delay(0, -1, 1)", ARGUMENT, y -> y.delay(0, -1, 1));
        unchanged("delay(0, 5, 0)", ARGUMENT, y -> y.delay(0, 5, 0));
        unchanged("delay(0, 5, 10)", ARGUMENT, y -> y.delay(0, 5, 10));
        unchanged("delay(0, 14, 1)", STATE, y -> y.delay(0, 14, 1));
        unchanged("delay(1, 28, 1)", ARGUMENT, y -> y.delay(1, 28, 1));
        unchanged("delay(1, -1, 1)", ARGUMENT, y -> y.delay(1, -1, 1));
        unchanged("delay(1, 27, 0)", ARGUMENT, y -> y.delay(1, 27, 0));
        unchanged("delay(1, 27, 10)", ARGUMENT, y -> y.delay(1, 27, 10));
        FormworkYard yard = new FormworkYard();
        CHECKS.refused("delay(0, -1, 10) without pours", MISSING, () -> yard.delay(0, -1, 10));
    }

    private static void promise13Pours() {
        FormworkYard yard = new FormworkYard();
        for (int count = 0; count < 10; count++) {
            due("pours()", yard.pours(), count);
            yard.plan(5, 5, 5, 5);
        }
        due("pours() with ten", yard.pours(), 10);
        yard.cancel(3);
        yard.cancel(9);
        due("pours() behind two cancels", yard.pours(), 8);
    }

    private static void promise14EndOf() {
        FormworkYard yard = new FormworkYard();
        int[] volumes = {1, 9, 10, 11, 19, 20, 21, 199, 200};
        int[] hours = {1, 1, 1, 2, 2, 2, 3, 20, 20};
        for (int i = 0; i < volumes.length; i++) {
            yard.plan(7, volumes[i], 1, 1);
            due("endOf, volume " + volumes[i], yard.endOf(i), 7 + hours[i]);
        }
        yard.setRates(50, 1);
        yard.move(8, 900);
        for (int i = 0; i < 4; i++) {
            yard.delay(8, 199, 9);
        }
        due("endOf(8), far beyond the hours", yard.endOf(8), 1136);
        missing("endOf", pour -> y -> y.endOf(pour));
    }

    private static void promise15ColdJoints() {
        FormworkYard yard = new FormworkYard();
        yard.plan(100, 35, 6, 25);
        due("coldJoints(0) without breaks", yard.coldJoints(0), 0);
        yard.delay(0, 20, 3);
        due("coldJoints(0) at a maturity of 90", yard.coldJoints(0), 1);
        // the break lasts from 102 to 105
        yard.setTemperature(101, 101, 50);
        yard.setTemperature(104, 104, 19);
        yard.setTemperature(105, 105, 50);
        due("coldJoints(0) at a maturity of 89", yard.coldJoints(0), 0);
        yard.setTemperature(102, 102, 21);
        due("coldJoints(0) at a maturity of 90 again", yard.coldJoints(0), 1);
        yard.delay(0, 34, 9);
        due("coldJoints(0), two", yard.coldJoints(0), 2);
        yard.delay(0, 0, 1);
        due("coldJoints(0), one hour too few", yard.coldJoints(0), 2);
        yard.setTemperature(0, 999, -10);
        due("coldJoints(0) in the cold", yard.coldJoints(0), 0);
        yard.setTemperature(0, 999, 50);
        yard.setRates(50, 1);
        yard.move(0, 900);
        due("coldJoints(0) at rate 1, but for the break of one hour", yard.coldJoints(0), 2);
        yard.plan(900, 200, 1, 1);
        yard.delay(1, 98, 9);
        due("coldJoints(1) from 998 on: two hours of 60", yard.coldJoints(1), 1);
        yard.delay(1, 0, 1);
        due("coldJoints(1) from 999 on: one hour of 60", yard.coldJoints(1), 0);
        yard.delay(1, 199, 9);
        due("coldJoints(1) beyond all hours", yard.coldJoints(1), 0);
        missing("coldJoints", pour -> y -> y.coldJoints(pour));
    }

    /** Only two hours gain, just enough for one joint, so the count tells where breaks begin. */
    private static void promise15Order() {
        FormworkYard yard = new FormworkYard();
        yard.setTemperature(0, 999, -10);
        yard.setTemperature(110, 111, 35);
        yard.plan(100, 200, 6, 25);
        yard.delay(0, 50, 5);
        due("coldJoints(0), 105 to 110", yard.coldJoints(0), 0);
        yard.delay(0, 59, 2);
        due("coldJoints(0), 110 to 112 behind 59 / 10 and 5", yard.coldJoints(0), 1);
        yard.delay(0, 59, 9);
        due("coldJoints(0), the later told one behind 59 is behind", yard.coldJoints(0), 1);
        yard.setTemperature(110, 111, -10);
        yard.setTemperature(112, 113, 35);
        due("coldJoints(0), 112 to 121", yard.coldJoints(0), 1);
        yard.setTemperature(112, 112, -10);
        yard.setTemperature(121, 122, 35);
        due("coldJoints(0), 45 in each", yard.coldJoints(0), 0);
        yard.delay(0, 10, 1);
        // the four: 101 to 102, 106 to 111, 111 to 113, 113 to 122
        due("coldJoints(0), 113 and 121 together", yard.coldJoints(0), 1);
        yard.setTemperature(121, 121, -10);
        due("coldJoints(0), 113 alone", yard.coldJoints(0), 0);
    }

    private static void promise16Struck() {
        FormworkYard yard = new FormworkYard();
        yard.plan(10, 25, 8, 25);
        due("struck(0), 500 in 17 hours", yard.struck(0), 30);
        yard.setTemperature(13, 13, 10);
        due("struck(0), 500 in just 17 hours", yard.struck(0), 30);
        yard.setTemperature(13, 13, 9);
        due("struck(0), 499 in 17 hours", yard.struck(0), 31);
        yard.setTemperature(0, 12, 50);
        due("struck(0), warm ahead of the end", yard.struck(0), 31);
        yard.setTemperature(0, 999, -10);
        due("struck(0), never", yard.struck(0), FormworkYard.NONE);
        yard.setTemperature(990, 998, 50);
        due("struck(0), 540 up to 999", yard.struck(0), 999);
        yard.setTemperature(998, 998, 9);
        due("struck(0), 499 up to 999", yard.struck(0), FormworkYard.NONE);
        yard.setTemperature(999, 999, 50);
        due("struck(0), hour 999 does not count", yard.struck(0), FormworkYard.NONE);
        yard.setTemperature(998, 998, 10);
        due("struck(0), 500 up to 999", yard.struck(0), 999);
        FormworkYard warm = new FormworkYard();
        warm.plan(0, 1, 1, 100);
        due("struck(0) of strength 100", warm.struck(0), 168);
        warm.plan(0, 1, 1, 1);
        due("struck(1) of strength 1", warm.struck(1), 2);
        warm.setRates(1, 1);
        warm.plan(900, 200, 1, 1);
        due("struck(2), its end beyond the hours", warm.struck(2), FormworkYard.NONE);
        warm.plan(900, 98, 1, 1);
        due("struck(3), its end at 998", warm.struck(3), 999);
        warm.plan(900, 99, 1, 1);
        due("struck(4), its end at 999", warm.struck(4), FormworkYard.NONE);
        missing("struck", pour -> y -> y.struck(pour));
    }

    private static void promise17FreeFrom() {
        FormworkYard yard = new FormworkYard();
        yard.plan(10, 25, 8, 25);
        due("freeFrom(0)", yard.freeFrom(0), 33);
        yard.setTemperature(0, 999, -10);
        due("freeFrom(0), never struck", yard.freeFrom(0), FormworkYard.NONE);
        yard.setTemperature(900, 909, 40);
        yard.setCrew(2, 24);
        due("freeFrom(0), struck at 910", yard.freeFrom(0), 934);
        yard.setTemperature(900, 909, -10);
        yard.setTemperature(985, 994, 40);
        yard.setCrew(2, 4);
        due("freeFrom(0), struck at 995", yard.freeFrom(0), 999);
        yard.setCrew(2, 5);
        due("freeFrom(0), cleaned through 999", yard.freeFrom(0), FormworkYard.NONE);
        yard.setCrew(2, 6);
        due("freeFrom(0), cleaned beyond 999", yard.freeFrom(0), FormworkYard.NONE);
        yard.setCrew(2, 0);
        due("freeFrom(0) without cleaning", yard.freeFrom(0), 995);
        yard.setTemperature(995, 998, 40);
        yard.setTemperature(985, 988, -10);
        due("freeFrom(0), struck at 999", yard.freeFrom(0), 999);
        missing("freeFrom", pour -> y -> y.freeFrom(pour));
    }

    private interface OfPour {
        Checks.Change of(int pour);
    }

    private static void missing(String name, OfPour call) {
        int[] numbers = {-1, 10, Integer.MIN_VALUE, Integer.MAX_VALUE};
        for (int number : numbers) {
            unchanged(name + "(" + number + ")", MISSING, call.of(number));
        }
        FormworkYard yard = new FormworkYard();
        CHECKS.refused(name + "(0) without pours", MISSING, () -> call.of(0).make(yard));
        yard.plan(5, 5, 5, 5);
        yard.plan(5, 5, 5, 5);
        yard.cancel(0);
        CHECKS.refused(name + "(0) cancelled", MISSING, () -> call.of(0).make(yard));
        CHECKS.refused(name + "(2) not yet planned", MISSING, () -> call.of(2).make(yard));
    }

    private static void due(String call, long got, long want) {
        CHECKS.due(call, got, want);
    }

    private static void unchanged(String call, Class<? extends RuntimeException> due,
            Checks.Change change) {
        CHECKS.refusedUnchanged(call, due, change);
    }
}
