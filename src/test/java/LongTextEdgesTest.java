import java.lang.reflect.Field;
import java.lang.reflect.Method;

/**
 * The edge of text(): 8000 signs. They need 1998 DRIVES or more, nearly all along STREETS 100 to 149, and no town was found with a ROUND
 * like that (long trying came to 1866). So a ROUND of 2000 DRIVES is made, and other STREETS are put into it where the object holds it.
 */
public final class LongTextEdgesTest extends Edges {
    private static final int DRIVES = 2000;
    /** One way round by 20 CROSSINGS, and 50 STREETS of two SIDES side by side: each SIDE takes a whole turn. */
    private static final Town TURNS = and(crossings(20), x -> {
        for (int c = 1; c < 20; c++) {
            x.sides(x.street(c, (c + 1) % 20, 1, true), 0);
        }
        for (int k = 0; k < 50; k++) {
            x.sides(x.street(0, 1, 1, true), 2);
        }
        return x.round();
    });

    public static void main(String[] args) throws ReflectiveOperationException {
        justEightThousand();
        oneSignMore();
        allBehindIt();
        end();
    }

    /** All DRIVES along STREET 149, but for so many at the end, which are along others: 4 signs each, and fewer. */
    private static PloughDepot longRound(Town town, int... last) throws ReflectiveOperationException {
        PloughDepot x = made(town);
        due(DRIVES, x.length(0));
        Field now = PloughDepot.class.getDeclaredField("now");
        now.setAccessible(true);
        Field drives = now.get(x).getClass().getDeclaredField("drives");
        drives.setAccessible(true);
        Object table = drives.get(now.get(x));
        Method put = table.getClass().getDeclaredMethod("put", int.class, int.class, int.class);
        put.setAccessible(true);
        for (int i = 0; i < DRIVES; i++) {
            int back = DRIVES - i;
            put.invoke(table, i, 0, back <= last.length ? last[last.length - back] : 149);
        }
        return x;
    }

    /** PLOUGHS with so many DRIVES of 1 minute each, in their order. */
    private static Town parts(int... many) {
        return and(TURNS, x -> {
            for (int drives : many) {
                x.plough(0, drives);
            }
            return x.split();
        });
    }

    private static void dueEnd(PloughDepot x, int signs, String end) {
        due(signs, x.text());
        due(0, x.status());
        for (int k = 0; k < end.length(); k++) {
            due(end.charAt(k), x.sign(signs - end.length() + k));
        }
        due(NONE, x.sign(signs));
        due(NONE, x.sign(8000));
    }

    private static void justEightThousand() throws ReflectiveOperationException {
        says("Promise 35", "8000 signs at most");
        dueEnd(longRound(TURNS), 8000, "-149-149");
        // a letter and three signs less
        dueEnd(longRound(parts(2000), 99), 8000, "-149-99A");
        dueEnd(longRound(parts(1000, 1000), 9), 8000, "-149-9B");
        dueEnd(longRound(parts(1000, 1000), 99, 99), 8000, "-99-99B");
    }

    private static void oneSignMore() throws ReflectiveOperationException {
        says("Promise 35", "(a DRIVE that does not fit, and all behind it, are left out)");
        // its letter does not fit: neither does the DRIVE
        dueEnd(longRound(parts(2000)), 7996, "-149-149");
        dueEnd(longRound(parts(1000, 1000)), 7997, "-149-149");
        dueEnd(longRound(parts(1000, 1000), 99), 7997, "-149-149");
        // the letter of one that is left out is not written behind another one
        dueEnd(longRound(parts(1999, 1), 149), 7997, "-149-149A");
    }

    private static void allBehindIt() throws ReflectiveOperationException {
        says("Promise 35", "(a DRIVE that does not fit, and all behind it, are left out)");
        // 1997 DRIVES and 11 letters are 7999 signs; the next one has 4, though two behind it have 2
        Town letters = parts(100, 100, 100, 100, 100, 100, 100, 100, 100, 100, 100, 900);
        dueEnd(longRound(letters), 7999, "-149-149");
        dueEnd(longRound(letters, 149, 1, 1), 7999, "-149-149");
        // 1997 DRIVES and 10 letters are 7998 signs: the second DRIVE behind them would fit, but not the first
        dueEnd(longRound(parts(100, 100, 100, 100, 100, 100, 100, 100, 100, 100, 1000), 149, 1, 1), 7998, "-149-149");
        // 2 signs each: two of four fit; four of five, but not the last with its letter; all six
        dueEnd(longRound(letters, 1, 1, 1, 1), 7999, "-149-1-1");
        dueEnd(longRound(letters, 1, 1, 1, 1, 1), 7999, "-1-1-1-1");
        dueEnd(longRound(letters, 1, 1, 1, 1, 1, 1), 8000, "-1-1L");
    }
}
