/** Promises 12 to 17: houses, their marks, sills, flow, locks, pumps. */
public final class HousesTest {
    private static final int BAD = RiverTuesdays.BAD, STATE = RiverTuesdays.STATE;
    private static final int UNLIKE = 3;

    public static void main(String[] args) {
        house();
        mark();
        markRefused();
        sill();
        flow();
        shut();
        pump();
        Due.end("HousesTest");
    }

    private static void house() {
        RiverTuesdays x = Make.street("q61 h123 m521 s413 d904 w850 l786");
        int[] floors = {1, 5, 4, 9, 8, 7}, sills = {2, 2, 1, 0, 5, 8}, cellars = {3, 1, 3, 4, 0, 6};
        for (int i = 0; i < 6; i++) {
            Due.tells(x, "kind " + i, x.house(i, 0), 1, i);
            Due.tells(x, "floor " + i, x.house(i, 1), 1, floors[i]);
            Due.tells(x, "sill " + i, x.house(i, 2), 1, sills[i]);
            Due.tells(x, "cellar " + i, x.house(i, 3), 1, cellars[i]);
        }
        Due.is("what -1", x.house(0, -1), BAD);
        Due.is("what 7", x.house(0, 7), BAD);
        Due.is("house -1", x.house(-1, 0), BAD);
        Due.is("house 6", x.house(6, 0), BAD);
        Due.is("asked stays", x.asked(), 6);
        x = Make.street("q61 m521 s413");
        x.hour(1);
        x.hour(1);
        Due.tells(x, "water ahead of the mill", x.house(0, 4), 1, 2);
        Due.tells(x, "water ahead of the shop", x.house(1, 4), 1, 1);
        Due.tells(x, "water in the mill's cellar", x.house(0, 5), 1, 1);
        Due.tells(x, "water in the shop's cellar", x.house(1, 5), 1, 0);
        Due.tells(x, "ground by the mill", x.house(0, 6), 1, 2);
        Due.tells(x, "ground by the shop", x.house(1, 6), 1, 0);
    }

    private static void mark() {
        // 8 come to the mill, at 17 then: half of 14 runs on to the wheel, at 10 then, and
        // half of 8 from there.
        RiverTuesdays x = Make.street("q80 m900 w300 s205 d200 l100");
        Due.is("from the mill", x.mark(0, 1), 7);
        Due.is("from the wheel, as a mill", x.mark(1, 1), 4);
        Due.is("by the wheel", x.mark(1, 4), 2);
        Due.is("room of the shop", x.mark(2, 2), 5);
        Due.is("the dam's level above the next", x.mark(3, 3), 1);
        Due.is("the lock's, as a dam", x.mark(4, 3), 1);
        Due.is("not shut", x.mark(4, 5), 0);
        x.shut(4, 1);
        Due.is("shut", x.mark(4, 5), 1);
        Due.is("nothing has passed", x.count(1), 0);
        Due.is("nothing has come", x.water(), 0);
        x = Make.street("q92 s004 d009 l500");
        Due.is("below the next one's level", x.mark(1, 3), -5);
        Due.is("above the sea's", x.mark(2, 3), 3);
        x.hour(1);
        Due.is("room that is left", x.mark(0, 2), 0);
        x = Make.street("q30 m900 m009");
        Due.is("by a mill behind", x.mark(1, 1), 2);
        Due.is("a mill is no wheel", x.mark(1, 4), -3);
    }

    private static void markRefused() {
        RiverTuesdays x = Make.street("q61 h123 m521 s413 d904 w850 l786");
        boolean[][] isOf = {
            {false, false, false, false, false}, {true, false, false, false, false},
            {false, true, false, false, false}, {false, false, true, false, false},
            {true, false, false, true, false}, {false, false, true, false, true}};
        int refused = 0;
        for (int i = 0; i < 6; i++) {
            for (int kind = 1; kind <= 5; kind++) {
                if (!isOf[i][kind - 1]) {
                    Due.finds(x, "mark " + i + " " + kind, x.mark(i, kind), UNLIKE);
                    refused++;
                } else {
                    x.mark(i, kind);
                }
            }
        }
        Due.is("unlike ones", x.findings(UNLIKE), refused);
        Due.is("kind 0", x.mark(0, 0), BAD);
        Due.is("kind 6", x.mark(0, 6), BAD);
        Due.is("kind -1", x.mark(0, -1), BAD);
        Due.is("house 6", x.mark(6, 1), BAD);
        Due.is("house -1", x.mark(-1, 1), BAD);
        Due.is("mark tells nothing by asked()", x.asked(), 0);
    }

    private static void sill() {
        RiverTuesdays x = Make.street("q40 m321 h111");
        Due.is("sill 20", x.sill(0, 20), 2);
        Due.is("sill 0", x.sill(0, 0), 20);
        Due.is("sill 21", x.sill(0, 21), BAD);
        Due.is("sill -1", x.sill(0, -1), BAD);
        Due.is("house 2", x.sill(2, 1), BAD);
        Due.is("house -1", x.sill(-1, 1), BAD);
        Due.is("its sill", Make.house(x, 0, 2), 0);
        Due.is("the other one's", Make.house(x, 1, 2), 1);
        x.hour(1);
        Due.is("water goes over it", Make.house(x, 0, 5), 1);
        Due.is("houses, none there", new RiverTuesdays().sill(0, 0), BAD);
    }

    private static void flow() {
        RiverTuesdays x = new RiverTuesdays();
        Due.is("no houses, 0", x.flow(0), BAD);
        Due.is("no houses, 10", x.flow(10), BAD);
        Due.is("no houses", x.flow(1), STATE);
        x = Make.street("q40 m321");
        Due.is("flow 9", x.flow(9), 4);
        Due.is("flow 1", x.flow(1), 9);
        Due.is("flow 0", x.flow(0), BAD);
        Due.is("flow 10", x.flow(10), BAD);
        x.hour(1);
        Due.is("comes in", x.water(), 1);
    }

    private static void shut() {
        RiverTuesdays x = Make.street("q40 l321 d321");
        Due.is("shut", x.shut(0, 1), 0);
        Due.is("shut again", x.shut(0, 1), 1);
        Due.is("is 2", x.shut(0, 2), BAD);
        Due.is("is -1", x.shut(0, -1), BAD);
        Due.is("a dam, is 2", x.shut(1, 2), BAD);
        Due.is("house 2", x.shut(2, 1), BAD);
        Due.is("house -1", x.shut(-1, 1), BAD);
        Due.finds(x, "a dam", x.shut(1, 1), UNLIKE);
        x.hour(1);
        Due.is("nothing runs on", Make.house(x, 0, 4), 3);
        Due.is("but into the cellar", Make.house(x, 0, 5), 1);
        Due.is("not shut any more", x.shut(0, 0), 1);
        x.hour(0);
        Due.is("runs on", Make.house(x, 0, 4), 1);
    }

    private static void pump() {
        // 9 come to the first house: 5 run on, 4 go below; 5 of 5 run out to the sea.
        RiverTuesdays x = Make.street("q90 h904 h904");
        x.hour(1);
        Due.is("a full cellar", x.pump(0), 4);
        Due.is("an empty one", x.pump(1), 0);
        x = Make.street("q99 h004");
        x.hour(1);
        Due.tells(x, "ahead of pumping", x.water(), 9, 0);
        Due.is("pump 4", x.pump(0), 4);
        Due.is("nothing below", Make.house(x, 0, 5), 0);
        Due.is("ahead stays", Make.house(x, 0, 4), 5);
        Due.tells(x, "pumped out", x.water(), 9, 4);
        Due.is("pump again", x.pump(0), 0);
        Due.is("house 1", x.pump(1), BAD);
        Due.is("house -1", x.pump(-1), BAD);
    }
}
