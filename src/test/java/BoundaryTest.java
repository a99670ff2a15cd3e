import java.math.BigInteger;
import java.util.ArrayList;
import java.util.List;
import java.util.function.Supplier;
import java.util.function.ToLongFunction;

/**
 * Each sentence of the document that names a boundary, on both sides of it. Every refused call is
 * done to one of two like objects, which must answer alike from then on: it changes nothing.
 */
public final class BoundaryTest {
    private static final int NONE = -1, UNKNOWN = -101, OUTSIDE = -102, STATE = -103, FULL = -104;
    private static final String TWO = "sabcdef,fabcdef", THREE = "cabcdef,saabbcc,tffeedd";

    private static final Check CHECK = new Check();

    private static void taken(String sentence, Supplier<CubeTower> start, ToLongFunction<CubeTower> call, long want) {
        CHECK.due(sentence, call.applyAsLong(start.get()), want);
    }

    private static void refused(String sentence, Supplier<CubeTower> start, ToLongFunction<CubeTower> call, long want) {
        CubeTower asked = start.get();
        CubeTower twin = start.get();
        CHECK.due(sentence, call.applyAsLong(asked), want);
        List<Long> answers = answersFromThenOn(asked);
        List<Long> due = answersFromThenOn(twin);
        for (int at = 0; at < due.size(); at++) {
            CHECK.due(sentence + ": changes nothing, answer " + at + " from then on", answers.get(at), due.get(at));
        }
    }

    /** Answers that tell all that an object holds: what is now, the image, the page, the counts. */
    private static List<Long> answersFromThenOn(CubeTower tower) {
        List<Long> answers = new ArrayList<>();
        answers.add(tower.digest());
        answers.add((long) tower.restore());
        answers.add(tower.digest());
        // What may be refused to both of them comes late, or it would do to both what one refusal did.
        answers.add((long) tower.repaint());
        answers.add((long) tower.see(1, 0, false));
        answers.add((long) tower.forget());
        answers.add((long) tower.turn(0, 0));
        answers.add(tower.digest());
        answers.add((long) tower.letter('x'));
        answers.add((long) tower.fault());
        answers.add((long) tower.blank());
        answers.add((long) readAnew(tower, "tabcabc,hffdddd"));
        answers.add((long) tower.restore());
        answers.add(tower.digest());
        return answers;
    }

    /** No text on the page makes a tower before it is read. */
    private static void refusedWithoutTower(String sentence, ToLongFunction<CubeTower> call, long want) {
        refused(sentence + ", no TOWER", CubeTower::new, call, want);
        refused(sentence + ", no TOWER, but its text", () -> withPage(TWO), call, want);
    }

    // ---- objects to begin with

    private static CubeTower withPage(String text) {
        CubeTower tower = new CubeTower();
        Check.type(tower, text);
        return tower;
    }

    /** A tower with an image that is not as it is now, with turns, what is seen, a page, a repaint(). */
    private static CubeTower busy(String text) {
        CubeTower tower = Check.read(text);
        tower.turn(0, 0);
        tower.see(1, 0, false);
        tower.image();
        tower.turn(0, 0);
        tower.paint(1, 3, 0);
        tower.see(0, 2, true);
        tower.repaint();
        Check.type(tower, "xy");
        return tower;
    }

    private static CubeTower two() {
        return busy(TWO);
    }

    private static CubeTower three() {
        return busy(THREE);
    }

    private static CubeTower busyWithPage(String text) {
        CubeTower tower = three();
        tower.blank();
        Check.type(tower, text);
        return tower;
    }

    private static int readAnew(CubeTower tower, String text) {
        tower.blank();
        Check.type(tower, text);
        return tower.tower();
    }

    private static CubeTower repainted(int times) {
        CubeTower tower = two();
        for (int time = tower.count(8); time < times; time++) {
            tower.repaint();
        }
        return tower;
    }

    private static CubeTower seen(int times) {
        CubeTower tower = three();
        tower.forget();
        for (int time = 0; time < times; time++) {
            tower.see(time % 3, time % 2, time < 3);
        }
        return tower;
    }

    private static CubeTower turned(int times) {
        CubeTower tower = two();
        for (int time = tower.count(4); time < times; time++) {
            tower.turn(0, 0);
        }
        return tower;
    }

    private static CubeTower withoutImage() {
        CubeTower tower = Check.read(TWO);
        tower.turn(0, 0);
        tower.see(0, 2, true);
        Check.type(tower, "xy");
        return tower;
    }

    /** Numbers that name nothing, where 0 to beyond - 1 do. */
    private static int[] wrong(int beyond) {
        return new int[] {Integer.MIN_VALUE, -1, beyond, Integer.MAX_VALUE};
    }

    // ---- the boundaries, promise by promise

    private static void promise1NoTower() {
        for (int cube = 0; cube < 3; cube++) {
            int number = cube;
            refusedWithoutTower("1 no CUBE: cube()", t -> t.cube(number, 0), UNKNOWN);
            refusedWithoutTower("1 no CUBE: as()", t -> t.as(number, 0), UNKNOWN);
            refusedWithoutTower("1 no CUBE: turn()", t -> t.turn(number, 0), UNKNOWN);
            refusedWithoutTower("1 no CUBE: paint()", t -> t.paint(number, 0, 0), UNKNOWN);
            refusedWithoutTower("1 no CUBE: swap()", t -> t.swap(number, 1), UNKNOWN);
            refusedWithoutTower("1 no CUBE: be()", t -> t.be(number, 0), UNKNOWN);
            refusedWithoutTower("1 no CUBE: see()", t -> t.see(number, 0, true), UNKNOWN);
        }
        for (int what = 0; what <= 8; what++) {
            int number = what;
            taken("1 nothing to count " + what, CubeTower::new, t -> t.count(number), 0);
        }
        taken("1 THE PAGE is empty", CubeTower::new, CubeTower::blank, 0);
    }

    private static void promise2Letter() {
        taken("2 code 32 at least", CubeTower::new, t -> t.letter(32), 1);
        taken("2 code 126 at most", CubeTower::new, t -> t.letter(126), 1);
        for (int code : new int[] {Integer.MIN_VALUE, -1, 0, 31, 127, 32 + 256, 97 + 65536, Integer.MAX_VALUE}) {
            refused("2 OUTSIDE: code " + code, () -> withPage("ca"), t -> t.letter(code), OUTSIDE);
            refused("2 OUTSIDE: code " + code + " with a TOWER", BoundaryTest::two, t -> t.letter(code), OUTSIDE);
        }
        String full = THREE + "abc";
        taken("2 the 26th letter", () -> withPage(full.substring(0, 25)), t -> t.letter('c'), 26);
        refused("2 FULL: the 27th letter", () -> withPage(full), t -> t.letter('c'), FULL);
        refused("2 FULL: the 27th letter with a TOWER", () -> busyWithPage(full), t -> t.letter('c'), FULL);
        refused("2 OUTSIDE before FULL", () -> withPage(full), t -> t.letter(31), OUTSIDE);
        refused("2 OUTSIDE before FULL", () -> withPage(full), t -> t.letter(127), OUTSIDE);
        CubeTower again = withPage(full);
        again.letter('x');
        again.blank();
        Check.type(again, full);
        CHECK.due("2 26 letters again behind blank()", again.count(6), 26);
        CubeTower behind = Check.read(THREE);
        Check.type(behind, full);
        CHECK.due("2 26 letters again behind tower()", behind.count(6), 26);
        CHECK.due("2 FULL again behind tower()", behind.letter('a'), FULL);
    }

    private static void promise3Blank() {
        taken("3 an empty PAGE had none", CubeTower::new, CubeTower::blank, 0);
        taken("3 one letter", () -> withPage("c"), CubeTower::blank, 1);
        taken("3 a full PAGE", () -> withPage(THREE + "abc"), CubeTower::blank, 26);
        taken("3 THE PAGE is empty behind tower()", () -> Check.read(TWO), CubeTower::blank, 0);
        CubeTower tower = two();
        tower.blank();
        CHECK.due("3 empty then: letters", tower.count(6), 0);
        CHECK.due("3 empty then: no fault", tower.fault(), 0);
        CHECK.due("3 empty then: no tower", tower.tower(), STATE);
        CHECK.due("3 the image stays", tower.restore(), 1);
    }

    private static void dueFault(String text, int want) {
        taken("4 fault in '" + text + "'", () -> withPage(text), CubeTower::fault, want);
    }

    private static void promise4Fault() {
        dueFault("", 0);
        dueFault("c", 1);
        dueFault(" ", 0);
        dueFault("a", 0);
        dueFault("C", 0);
        dueFault("~", 0);
        dueFault("ca", 2);
        dueFault("cf", 2);
        dueFault("cg", 1);
        dueFault("c`", 1);
        dueFault("cA", 1);
        dueFault("c,", 1);
        dueFault("cabcdef", 7);
        dueFault("cabcdefa", 7);
        dueFault("cabcdef;", 7);
        dueFault("cabcdef,", 8);
        dueFault("cabcdef,,", 8);
        dueFault(TWO, 15);
        dueFault(TWO + ",", 16);
        dueFault(TWO + "a", 15);
        dueFault(THREE, 23);
        dueFault(THREE + ",", 23);
        dueFault(THREE + ",ca", 23);
        dueFault("!" + THREE + ",c", 0);
        CubeTower tower = withPage("c!");
        tower.fault();
        CHECK.due("4 fault() changes nothing", tower.digest(), withPage("c!").digest());
    }

    private static void promise5Tower() {
        taken("5 two CUBES", () -> withPage(TWO), CubeTower::tower, 2);
        taken("5 three CUBES", () -> withPage(THREE), CubeTower::tower, 3);
        String[] none = {"", "c", "cabcdef", "cabcdef,", "cabcdef,s", TWO.substring(0, 14), TWO + ",",
            TWO + "a", TWO + ",cabcde", THREE + ",", THREE + "a", THREE + ",ca", " " + TWO, "x" + TWO.substring(1),
            TWO.replace(',', '.'), TWO.replace('f', 'g'), TWO.replace('a', '`'), "Sabcdef,fabcdef"};
        for (String text : none) {
            refused("5 STATE: '" + text + "' on a new object", () -> withPage(text), CubeTower::tower, STATE);
            refused("5 STATE: '" + text + "' with a TOWER", () -> busyWithPage(text), CubeTower::tower, STATE);
        }
        CubeTower tower = three();
        CHECK.due("5 another TOWER", readAnew(tower, TWO), 2);
        CHECK.due("5 THE PAGE is empty then", tower.count(6), 0);
        CHECK.due("5 read twice", tower.count(7), 2);
        CHECK.due("5 gone: the third CUBE", tower.cube(2, 0), UNKNOWN);
        CHECK.due("5 gone: TURNS", tower.count(4), 0);
        CHECK.due("5 gone: what was SEEN", tower.count(5), 0);
        CHECK.due("5 gone: SORTS of 0", tower.cube(0, 2), 31);
        CHECK.due("5 gone: SORTS of 1", tower.cube(1, 2), 31);
        CHECK.due("5 gone: the IMAGE", tower.restore(), STATE);
        readAnew(tower, THREE);
        CHECK.due("5 from two to three: SORTS of 2", tower.cube(2, 2), 31);
        CHECK.due("5 from two to three: colour", tower.cube(2, 10), 5);
        tower.see(0, 0, true);
        CHECK.due("5 the same text is another TOWER, too", readAnew(tower, THREE), 3);
        CHECK.due("5 the same text is another TOWER, too", tower.count(5), 0);
    }

    private static void promise6Cube() {
        taken("6 cube 0", BoundaryTest::two, t -> t.cube(0, 0), 1);
        taken("6 cube 1 of two", BoundaryTest::two, t -> t.cube(1, 0), 3);
        taken("6 cube 2 of three", BoundaryTest::three, t -> t.cube(2, 0), 2);
        for (int cube : wrong(2)) {
            refused("6 UNKNOWN: cube " + cube + " of two", BoundaryTest::two, t -> t.cube(cube, 0), UNKNOWN);
            refused("6 UNKNOWN before OUTSIDE", BoundaryTest::two, t -> t.cube(cube, 5), UNKNOWN);
        }
        for (int cube : wrong(3)) {
            refused("6 UNKNOWN: cube " + cube + " of three", BoundaryTest::three, t -> t.cube(cube, 10), UNKNOWN);
        }
        taken("6 what 4", BoundaryTest::two, t -> t.cube(0, 4), 3);
        taken("6 what 10", BoundaryTest::two, t -> t.cube(0, 10), 0);
        taken("6 what 15", BoundaryTest::three, t -> t.cube(2, 15), 3);
        for (int what : new int[] {Integer.MIN_VALUE, -1, 5, 6, 9, 16, Integer.MAX_VALUE}) {
            refused("6 OUTSIDE: what " + what, BoundaryTest::two, t -> t.cube(0, what), OUTSIDE);
        }
        taken("6 ASK with one SORT left", () -> {
            CubeTower tower = Check.read(TWO);
            tower.see(0, 0, true);
            tower.see(0, 1, true);
            return tower;
        }, t -> t.cube(0, 3), 0);
        CubeTower none = Check.read(TWO);
        none.see(0, 0, true);
        none.see(0, 0, false);
        CHECK.due("6 no SORTS left", none.cube(0, 2), 0);
        CHECK.due("6 ASK: NONE, if there are none", none.cube(0, 3), NONE);
    }

    private static void promise7As() {
        taken("7 kind 0", BoundaryTest::two, t -> t.as(1, 0), 1);
        taken("7 kind 3", BoundaryTest::two, t -> t.as(1, 3), 1);
        taken("7 NONE: a FIXED as a HALF", BoundaryTest::two, t -> t.as(1, 4), NONE);
        taken("7 a HALF as a HALF", () -> Check.read("haaaaaa,faaaaaa"), t -> t.as(0, 4), 0);
        taken("7 a HALF is a SPINNER, too", () -> Check.read("haaaaaa,faaaaaa"), t -> t.as(0, 1), 0);
        taken("7 NONE: a SPINNER is no HALF", BoundaryTest::two, t -> t.as(0, 4), NONE);
        for (int cube : wrong(2)) {
            refused("7 UNKNOWN: cube " + cube, BoundaryTest::two, t -> t.as(cube, 0), UNKNOWN);
            refused("7 UNKNOWN before OUTSIDE", BoundaryTest::two, t -> t.as(cube, 5), UNKNOWN);
        }
        for (int kind : wrong(5)) {
            refused("7 OUTSIDE: kind " + kind, BoundaryTest::two, t -> t.as(0, kind), OUTSIDE);
        }
        taken("7 cube 2 of three", BoundaryTest::three, t -> t.as(2, 2), 2);
        refused("7 UNKNOWN: cube 3 of three", BoundaryTest::three, t -> t.as(3, 2), UNKNOWN);
    }

    private static void promise8Wall() {
        Supplier<CubeTower> like = () -> Check.read("faabcde,faabcdf");
        taken("8 wall 0", like, t -> t.wall(0, 1), 1);
        taken("8 wall 3", like, t -> t.wall(3, 1), 0);
        taken("8 GOOD, if there is none", like, t -> t.wall(3, 0), 1);
        taken("8 not GOOD, if there is one", like, t -> t.wall(0, 0), 0);
        taken("8 all three alike", () -> Check.read("faaaaaa,faaaaaa,faaaaaa"), t -> t.wall(3, 1), 3);
        for (int wall : wrong(4)) {
            refused("8 UNKNOWN: wall " + wall, BoundaryTest::two, t -> t.wall(wall, 0), UNKNOWN);
            refused("8 UNKNOWN before OUTSIDE", BoundaryTest::two, t -> t.wall(wall, 2), UNKNOWN);
            refusedWithoutTower("8 UNKNOWN: wall " + wall + " without a TOWER", t -> t.wall(wall, 0), UNKNOWN);
        }
        for (int wall = 0; wall < 4; wall++) {
            int number = wall;
            refusedWithoutTower("8 UNKNOWN: also without a TOWER", t -> t.wall(number, 0), UNKNOWN);
            refusedWithoutTower("8 UNKNOWN before OUTSIDE without one", t -> t.wall(number, 2), UNKNOWN);
        }
        for (int what : wrong(2)) {
            refused("8 OUTSIDE: what " + what, BoundaryTest::two, t -> t.wall(0, what), OUTSIDE);
        }
    }

    private static void promise9Turn() {
        Supplier<CubeTower> plain = () -> Check.read("cabcdef,fabcdef");
        taken("9 turn 0", plain, t -> t.turn(0, 0), 0);
        taken("9 turn 3", plain, t -> t.turn(0, 3), 2);
        for (int cube : wrong(2)) {
            refused("9 UNKNOWN: cube " + cube, BoundaryTest::two, t -> t.turn(cube, 0), UNKNOWN);
            refused("9 UNKNOWN before OUTSIDE", BoundaryTest::two, t -> t.turn(cube, 4), UNKNOWN);
        }
        refused("9 UNKNOWN: cube 3 of three", BoundaryTest::three, t -> t.turn(3, 0), UNKNOWN);
        for (int turn : wrong(4)) {
            refused("9 OUTSIDE: turn " + turn, BoundaryTest::two, t -> t.turn(0, turn), OUTSIDE);
            refused("9 OUTSIDE before STATE", BoundaryTest::two, t -> t.turn(1, turn), OUTSIDE);
        }
        String[] able = {"1111", "1100", "0011", "0000", "1100"};
        for (int kind = 0; kind < 5; kind++) {
            String text = "cstfh".charAt(kind) + "bbbbbb,faaaaaa";
            for (int turn = 0; turn < 4; turn++) {
                int number = turn;
                if (able[kind].charAt(turn) == '1') {
                    taken("9 it can " + kind + " " + turn, () -> busy(text), t -> t.turn(0, number), 0);
                } else {
                    refused("9 STATE: it cannot " + kind + " " + turn, () -> busy(text), t -> t.turn(0, number), STATE);
                }
            }
        }
        taken("9 as many as 512 calls leave room for", () -> turned(480), t -> t.turn(0, 0), 0);
    }

    /**
     * No object comes to 999 TURNS in its 512 calls, and what later calls answer is free; the class
     * keeps to the promise's own number all the same.
     */
    private static void promise9BeyondAllCalls() {
        taken("9 the 999th", () -> turned(998), t -> t.turn(0, 0), 0);
        refused("9 FULL: 999 were", () -> turned(999), t -> t.turn(0, 0), FULL);
        refused("9 UNKNOWN before FULL", () -> turned(999), t -> t.turn(2, 0), UNKNOWN);
        refused("9 OUTSIDE before FULL", () -> turned(999), t -> t.turn(0, 4), OUTSIDE);
        refused("9 STATE before FULL", () -> turned(999), t -> t.turn(1, 0), STATE);
        refused("9 STATE before FULL", () -> turned(999), t -> t.turn(0, 2), STATE);
        CubeTower full = turned(999);
        readAnew(full, TWO);
        CHECK.due("9 none was turned in another TOWER", full.turn(0, 0), 0);
    }

    /** A TURN often enough brings each SIDE to where it was, and not before. */
    private static void promise9WrapsAround() {
        for (int turn = 0; turn < 4; turn++) {
            for (int times = 1; times <= 4; times++) {
                dueBack("9 a plain CUBE", "cabcdef,fffffff", turn, times, times == 4);
                if (turn < 2) {
                    dueBack("9 a SPINNER", "sabcdef,fffffff", turn, times, times == 4);
                    dueBack("9 a HALF", "habcdef,fffffff", turn, times, times % 2 == 0);
                } else {
                    dueBack("9 a TIPPER", "tabcdef,fffffff", turn, times, times == 4);
                }
            }
        }
    }

    private static void dueBack(String sentence, String text, int turn, int times, boolean back) {
        CubeTower tower = Check.read(text);
        for (int time = 0; time < times; time++) {
            tower.turn(0, turn);
        }
        boolean asItLay = true;
        for (int side = 0; side < 6; side++) {
            asItLay &= tower.cube(0, 10 + side) == side;
        }
        CHECK.due(sentence + ", turn " + turn + ", " + times + " times", asItLay ? 1 : 0, back ? 1 : 0);
        CHECK.due(sentence + ", so many TURNS", tower.count(4), times);
    }

    private static void promise10Paint() {
        taken("10 side 0, colour 0", BoundaryTest::three, t -> t.paint(2, 0, 0), 5);
        taken("10 side 5, colour 5", BoundaryTest::three, t -> t.paint(2, 5, 5), 3);
        CubeTower tower = Check.read(TWO);
        tower.paint(0, 0, 5);
        tower.paint(0, 5, 0);
        CHECK.due("10 colour 5 is there", tower.cube(0, 10), 5);
        CHECK.due("10 colour 0 is there", tower.cube(0, 15), 0);
        for (int cube : wrong(2)) {
            refused("10 UNKNOWN: cube " + cube, BoundaryTest::two, t -> t.paint(cube, 0, 0), UNKNOWN);
            refused("10 UNKNOWN: cube before OUTSIDE", BoundaryTest::two, t -> t.paint(cube, 0, 6), UNKNOWN);
        }
        refused("10 UNKNOWN: cube 3 of three", BoundaryTest::three, t -> t.paint(3, 0, 0), UNKNOWN);
        for (int side : wrong(6)) {
            refused("10 UNKNOWN: side " + side, BoundaryTest::two, t -> t.paint(0, side, 1), UNKNOWN);
            refused("10 UNKNOWN: side before OUTSIDE", BoundaryTest::two, t -> t.paint(0, side, -1), UNKNOWN);
        }
        for (int colour : wrong(6)) {
            refused("10 OUTSIDE: colour " + colour, BoundaryTest::two, t -> t.paint(0, 0, colour), OUTSIDE);
        }
    }

    private static void promise11Swap() {
        taken("11 first and last of two", () -> Check.read(TWO), t -> t.swap(0, 1), 4);
        taken("11 last and first of three", () -> Check.read("faaaaaa,fbbbbbb,faaaaaa"), t -> t.swap(2, 0), 4);
        for (int cube : wrong(2)) {
            refused("11 UNKNOWN: one " + cube, BoundaryTest::two, t -> t.swap(cube, 0), UNKNOWN);
            refused("11 UNKNOWN: other " + cube, BoundaryTest::two, t -> t.swap(0, cube), UNKNOWN);
            refused("11 UNKNOWN: both " + cube, BoundaryTest::two, t -> t.swap(cube, cube), UNKNOWN);
        }
        for (int cube = 0; cube < 3; cube++) {
            int number = cube;
            refused("11 UNKNOWN: the same", BoundaryTest::three, t -> t.swap(number, number), UNKNOWN);
        }
        refused("11 UNKNOWN: 3 of three", BoundaryTest::three, t -> t.swap(0, 3), UNKNOWN);
        CubeTower tower = seen(6);
        long digest = tower.digest();
        int[] sorts = {tower.cube(0, 2), tower.cube(1, 2), tower.cube(2, 2)};
        tower.swap(0, 2);
        CHECK.due("11 what is SEEN of it goes with the CUBE", tower.cube(2, 2), sorts[0]);
        CHECK.due("11 what is SEEN of it goes with the CUBE", tower.cube(0, 2), sorts[2]);
        CHECK.due("11 the third is as it was", tower.cube(1, 2), sorts[1]);
        CHECK.due("11 as much is SEEN", tower.count(5), 6);
        tower.swap(2, 0);
        CHECK.due("11 twice is not at all", tower.digest(), digest);
    }

    private static void promise12Be() {
        taken("12 kind 0", BoundaryTest::two, t -> t.be(0, 0), 1);
        taken("12 kind 4", BoundaryTest::two, t -> t.be(1, 4), 3);
        for (int cube : wrong(2)) {
            refused("12 UNKNOWN: cube " + cube, BoundaryTest::two, t -> t.be(cube, 0), UNKNOWN);
            refused("12 UNKNOWN before OUTSIDE", BoundaryTest::two, t -> t.be(cube, 5), UNKNOWN);
        }
        taken("12 cube 2 of three", BoundaryTest::three, t -> t.be(2, 4), 2);
        refused("12 UNKNOWN: cube 3 of three", BoundaryTest::three, t -> t.be(3, 0), UNKNOWN);
        for (int kind : wrong(5)) {
            refused("12 OUTSIDE: kind " + kind, BoundaryTest::two, t -> t.be(0, kind), OUTSIDE);
        }
    }

    private static void promise13Ways() {
        taken("13 SOLUTIONS: one", () -> Check.read("faaaaaa,fbbbbbb"), t -> t.ways(0), 1);
        taken("13 SOLUTIONS: none", () -> Check.read("faaaaaa,fbbbbba"), t -> t.ways(0), 0);
        taken("13 SOLUTIONS: in all WAYS", () -> Check.read("caaaaaa,cbbbbbb,ccccccc"), t -> t.ways(0), 13824);
        taken("13 LEAST: none", () -> Check.read("faaaaaa,fbbbbbb"), t -> t.ways(1), 0);
        taken("13 LEAST: one", () -> Check.read("faaaaaa,fbbbbba"), t -> t.ways(1), 1);
        taken("13 LEAST: all that there can be", () -> Check.read("caaaaaa,caaaaaa,caaaaaa"), t -> t.ways(1), 12);
        for (int what : wrong(2)) {
            refused("13 OUTSIDE: what " + what, BoundaryTest::two, t -> t.ways(what), OUTSIDE);
            refusedWithoutTower("13 OUTSIDE before STATE", t -> t.ways(what), OUTSIDE);
        }
        refusedWithoutTower("13 STATE", t -> t.ways(0), STATE);
    }

    private static void promise14Turning() {
        Supplier<CubeTower> right = () -> Check.read("faaaaaa,fbbbbbb");
        taken("14 0: it is RIGHT", right, t -> t.turning(0), 0);
        taken("14 by which first: NONE, it is RIGHT", right, t -> t.turning(1), NONE);
        Supplier<CubeTower> once = () -> Check.read(TWO);
        taken("14 one TURN", once, t -> t.turning(0), 1);
        taken("14 by which first: the least of all", once, t -> t.turning(1), 0);
        Supplier<CubeTower> never = () -> Check.read("caaaaaa,faaaaaa");
        taken("14 NONE for both", never, t -> t.turning(0), NONE);
        taken("14 NONE for both", never, t -> t.turning(1), NONE);
        // As it lies the last one's front clashes with the first, after a TIP with the second.
        Supplier<CubeTower> last = () -> Check.read("faacfaa,faaaebb,tabcdee");
        taken("14 one TURN of the last", last, t -> t.turning(0), 1);
        taken("14 by which first: the greatest of all", last, t -> t.turning(1), 23);
        for (int what : wrong(2)) {
            refused("14 OUTSIDE: what " + what, BoundaryTest::two, t -> t.turning(what), OUTSIDE);
            refusedWithoutTower("14 OUTSIDE before STATE", t -> t.turning(what), OUTSIDE);
        }
        refusedWithoutTower("14 STATE", t -> t.turning(0), STATE);
        refusedWithoutTower("14 STATE", t -> t.turning(1), STATE);
    }

    private static void promise15Repaint() {
        taken("15 -2, if there is one as it is", () -> Check.read(TWO), CubeTower::repaint, -2);
        taken("15 NONE", () -> Check.read("faaaaaa,faaaaaa"), CubeTower::repaint, NONE);
        taken("15 the least there can be", () -> Check.read("ccacbcb,saacccb"), CubeTower::repaint, 0);
        taken("15 two walls are one too many", () -> Check.read("faaaaaa,fbbbbaa"), CubeTower::repaint, NONE);
        taken("15 one wall", () -> Check.read("faaaaaa,fbbbbba"), CubeTower::repaint, 51);
        refusedWithoutTower("15 STATE", CubeTower::repaint, STATE);
        taken("15 the 10th time", () -> repainted(9), CubeTower::repaint, -2);
        refused("15 STATE: it was done 10 times", () -> repainted(10), CubeTower::repaint, STATE);
        refused("15 STATE: it was done 10 times", () -> repainted(15), CubeTower::repaint, STATE);
        CHECK.due("15 what was refused is not counted", repainted(15).count(8), 10);
        CubeTower early = new CubeTower();
        for (int time = 0; time < 12; time++) {
            early.repaint();
        }
        readAnew(early, TWO);
        CHECK.due("15 refused for want of a TOWER is not done", early.repaint(), -2);
        CHECK.due("15 refused for want of a TOWER is not counted", early.count(8), 1);
    }

    /** The document counts how often repaint() was done; no sentence of it begins the count anew. */
    private static void promise15OverTowers() {
        CubeTower tower = repainted(5);
        tower.image();
        for (int time = 6; time <= 9; time++) {
            tower.repaint();
        }
        tower.restore();
        CHECK.due("15 restore() is no new count", tower.count(8), 9);
        readAnew(tower, "faaaaaa,fbbbbba");
        CHECK.due("15 tower() is no new count", tower.count(8), 9);
        CHECK.due("15 the 10th time of all", tower.repaint(), 51);
        CHECK.due("15 the 11th time of all", tower.repaint(), STATE);
    }

    private static void promise16Odds() {
        Supplier<CubeTower> never = () -> Check.read("caaaaaa,caaaaaa,caaaaaa");
        taken("16 0 of 1: above", never, t -> t.odds(0), 0);
        taken("16 0 of 1: below", never, t -> t.odds(1), 1);
        Supplier<CubeTower> always = () -> Check.read("caaaaaa,cbbbbbb,ccccccc");
        taken("16 1 of 1: above", always, t -> t.odds(0), 1);
        taken("16 1 of 1: below", always, t -> t.odds(1), 1);
        Supplier<CubeTower> half = () -> Check.read("habcdef,fabcdef");
        taken("16 1 of 2: above", half, t -> t.odds(0), 1);
        taken("16 1 of 2: below", half, t -> t.odds(1), 2);
        taken("16 in lowest terms: above", () -> Check.read("sabcdef,sabcdef"), t -> t.odds(0), 3);
        taken("16 in lowest terms: below", () -> Check.read("sabcdef,sabcdef"), t -> t.odds(1), 4);
        for (int what : wrong(2)) {
            refused("16 OUTSIDE: what " + what, BoundaryTest::two, t -> t.odds(what), OUTSIDE);
            refusedWithoutTower("16 OUTSIDE before STATE", t -> t.odds(what), OUTSIDE);
        }
        refusedWithoutTower("16 STATE", t -> t.odds(0), STATE);
        refusedWithoutTower("16 STATE", t -> t.odds(1), STATE);
    }

    private static void promise17See() {
        taken("17 what 0", BoundaryTest::two, t -> t.see(0, 0, true), 3);
        taken("17 what 2", BoundaryTest::two, t -> t.see(1, 2, false), 3);
        for (int cube : wrong(2)) {
            refused("17 UNKNOWN: cube " + cube, BoundaryTest::two, t -> t.see(cube, 0, true), UNKNOWN);
            refused("17 UNKNOWN before OUTSIDE", BoundaryTest::two, t -> t.see(cube, 3, false), UNKNOWN);
        }
        refused("17 UNKNOWN: cube 3 of three", BoundaryTest::three, t -> t.see(3, 0, true), UNKNOWN);
        for (int what : wrong(3)) {
            refused("17 OUTSIDE: what " + what, BoundaryTest::two, t -> t.see(0, what, true), OUTSIDE);
            refused("17 OUTSIDE: what " + what, BoundaryTest::two, t -> t.see(0, what, false), OUTSIDE);
            refused("17 OUTSIDE before FULL", () -> seen(6), t -> t.see(0, what, true), OUTSIDE);
        }
        taken("17 the first", () -> seen(0), t -> t.see(2, 0, true), 1);
        taken("17 the 6th", () -> seen(5), t -> t.see(2, 0, true), 6);
        for (int cube = 0; cube < 3; cube++) {
            int number = cube;
            refused("17 FULL: 6 at most, of all CUBES", () -> seen(6), t -> t.see(number, 2, false), FULL);
        }
        refused("17 UNKNOWN before FULL", () -> seen(6), t -> t.see(3, 0, true), UNKNOWN);
        CubeTower tower = Check.read(TWO);
        for (int time = 1; time <= 6; time++) {
            CHECK.due("17 the same again is one more", tower.see(0, 0, true), time);
        }
        CHECK.due("17 FULL, though all is the same", tower.see(0, 0, true), FULL);
    }

    private static void promise17AfterwardsThereIsRoom() {
        CubeTower tower = seen(5);
        tower.image();
        tower.see(0, 0, true);
        CHECK.due("17 FULL", tower.see(0, 0, true), FULL);
        tower.restore();
        CHECK.due("17 the 6th again behind restore()", tower.see(0, 0, true), 6);
        tower.image();
        tower.forget();
        CHECK.due("17 the first again behind forget()", tower.see(0, 0, true), 1);
        tower.restore();
        CHECK.due("17 FULL again behind restore()", tower.see(0, 0, true), FULL);
        readAnew(tower, TWO);
        CHECK.due("17 the first again behind tower()", tower.see(0, 0, true), 1);
    }

    private static void promise18Forget() {
        taken("18 no TOWER: none was", CubeTower::new, CubeTower::forget, 0);
        taken("18 nothing was SEEN", () -> seen(0), CubeTower::forget, 0);
        taken("18 one", () -> seen(1), CubeTower::forget, 1);
        taken("18 all there can be", () -> seen(6), CubeTower::forget, 6);
        CubeTower tower = seen(6);
        tower.forget();
        for (int cube = 0; cube < 3; cube++) {
            CHECK.due("18 SORTS of " + cube, tower.cube(cube, 2), 31);
        }
        CHECK.due("18 none is SEEN then", tower.forget(), 0);
        CubeTower kept = seen(2);
        kept.image();
        kept.forget();
        kept.restore();
        CHECK.due("18 the IMAGE keeps what it has", kept.forget(), 2);
    }

    private static void promise19Runs() {
        Supplier<CubeTower> right = () -> Check.read("faaaaaa,fbbbbbb");
        taken("19 once", right, t -> t.runs(1, 0, 0), 1);
        taken("19 99 times", right, t -> t.runs(99, 0, 0), 99);
        taken("19 seed 0", right, t -> t.runs(1, 0, 2), 1406932606);
        taken("19 the greatest seed", right, t -> t.runs(1, Integer.MAX_VALUE, 2), 288979989);
        taken("19 what 1", () -> Check.read("faaaaaa,faaaaaa"), t -> t.runs(1, 0, 1), 4);
        for (int times : wrong(100)) {
            refused("19 OUTSIDE: times " + times, BoundaryTest::two, t -> t.runs(times, 0, 0), OUTSIDE);
            refusedWithoutTower("19 OUTSIDE before STATE: times", t -> t.runs(times, 0, 0), OUTSIDE);
        }
        refused("19 OUTSIDE: times 0", BoundaryTest::two, t -> t.runs(0, 0, 0), OUTSIDE);
        for (int seed : new int[] {-1, Integer.MIN_VALUE}) {
            refused("19 OUTSIDE: seed " + seed, BoundaryTest::two, t -> t.runs(1, seed, 0), OUTSIDE);
            refusedWithoutTower("19 OUTSIDE before STATE: seed", t -> t.runs(1, seed, 0), OUTSIDE);
        }
        for (int what : wrong(3)) {
            refused("19 OUTSIDE: what " + what, BoundaryTest::two, t -> t.runs(1, 0, what), OUTSIDE);
            refusedWithoutTower("19 OUTSIDE before STATE: what", t -> t.runs(1, 0, what), OUTSIDE);
        }
        for (int what = 0; what < 3; what++) {
            int number = what;
            refusedWithoutTower("19 STATE", t -> t.runs(1, 0, number), STATE);
        }
        CubeTower tower = three();
        long digest = tower.digest();
        tower.runs(99, 7, 0);
        CHECK.due("19 as they would be: nothing is done", tower.digest(), digest);
    }

    private static void promise20Image() {
        refusedWithoutTower("20 STATE", CubeTower::image, STATE);
        taken("20 no TURNS", () -> Check.read(TWO), CubeTower::image, 0);
        taken("20 one TURN", BoundaryTest::withoutImage, CubeTower::image, 1);
        taken("20 as many as there can be", () -> turned(480), CubeTower::image, 480);
        CubeTower tower = three();
        long digest = tower.digest();
        tower.image();
        CHECK.due("20 image() changes nothing else", tower.digest(), digest);
        CHECK.due("20 one IMAGE, the latest", tower.restore(), 2);
        CHECK.due("20 one IMAGE, the latest", tower.digest(), digest);
    }

    private static void promise21Restore() {
        refusedWithoutTower("21 STATE", CubeTower::restore, STATE);
        refused("21 STATE: none was kept", BoundaryTest::withoutImage, CubeTower::restore, STATE);
        refused("21 STATE: image() was refused", () -> {
            CubeTower tower = withPage(TWO);
            tower.image();
            tower.tower();
            return tower;
        }, CubeTower::restore, STATE);
        refused("21 STATE: another TOWER since", () -> {
            CubeTower tower = busyWithPage(THREE);
            tower.tower();
            tower.see(0, 2, true);
            Check.type(tower, "xy");
            return tower;
        }, CubeTower::restore, STATE);
        taken("21 kept", BoundaryTest::three, CubeTower::restore, 1);
        CubeTower tower = three();
        tower.restore();
        long digest = tower.digest();
        CHECK.due("21 the IMAGE stays behind restore()", tower.restore(), 1);
        CHECK.due("21 the IMAGE stays behind restore()", tower.digest(), digest);
        tower.tower();
        CHECK.due("21 a tower() that was refused is no other TOWER", tower.restore(), 1);
        readAnew(tower, TWO);
        tower.image();
        CHECK.due("21 the IMAGE of the other TOWER", tower.restore(), 0);
        CHECK.due("21 the IMAGE of the other TOWER", tower.count(0), 2);
    }

    private static void promise22Count() {
        int[] want = {2, 0, 4, 6, 2, 2, 2, 1, 1};
        for (int what = 0; what <= 8; what++) {
            int number = what;
            taken("22 what " + what, BoundaryTest::two, t -> t.count(number), want[what]);
        }
        for (int what : wrong(9)) {
            refused("22 OUTSIDE: what " + what, BoundaryTest::two, t -> t.count(what), OUTSIDE);
            refusedWithoutTower("22 OUTSIDE without a TOWER: what " + what, t -> t.count(what), OUTSIDE);
        }
        taken("22 2: 0 without a TOWER", CubeTower::new, t -> t.count(2), 0);
        taken("22 2: 0 without a TOWER, but with its text", () -> withPage(TWO), t -> t.count(2), 0);
        taken("22 2: all WALLS", () -> Check.read("faaaaaa,fbbbbbb"), t -> t.count(2), 4);
        taken("22 2: none", () -> Check.read("faaaaaa,faaaaaa"), t -> t.count(2), 0);
        taken("22 1: as many CLASHES as can be", () -> Check.read("faaaaaa,faaaaaa,faaaaaa"), t -> t.count(1), 12);
        taken("22 3: one COLOUR", () -> Check.read("faaaaaa,faaaaaa"), t -> t.count(3), 1);
        taken("22 3: all COLOURS", () -> Check.read(TWO), t -> t.count(3), 6);
    }

    private static long wrapped(long... numbers) {
        BigInteger sum = BigInteger.valueOf(1319);
        for (long number : numbers) {
            sum = sum.multiply(BigInteger.valueOf(31)).add(BigInteger.valueOf(number));
        }
        return sum.longValue();
    }

    private static void promise23Digest() {
        taken("23 no TOWER: what count() tells alone", CubeTower::new, CubeTower::digest,
                wrapped(0, 0, 0, 0, 0, 0, 0, 0, 0));
        taken("23 letters of THE PAGE", () -> withPage(" ~"), CubeTower::digest,
                wrapped(32, 126, 0, 0, 0, 0, 0, 0, 2, 0, 0));
        taken("23 wrapping", () -> Check.read("faaaaaa,faaaaaa"), CubeTower::digest, wrapped(
                3, 1, 31, 0, 0, 0, 0, 0, 0, 0, 0,
                3, 1, 31, 0, 0, 0, 0, 0, 0, 0, 0,
                0, 1, 0, 1, 0, 1, 0, 1,
                0, 4, -1, -1, 0, 1,
                2, 4, 0, 1, 0, 0, 0, 1, 0));
        CubeTower tower = three();
        long digest = tower.digest();
        CHECK.due("23 digest() changes nothing", tower.digest(), digest);
    }

    public static void main(String[] args) {
        promise1NoTower();
        promise2Letter();
        promise3Blank();
        promise4Fault();
        promise5Tower();
        promise6Cube();
        promise7As();
        promise8Wall();
        promise9Turn();
        promise9BeyondAllCalls();
        promise9WrapsAround();
        promise10Paint();
        promise11Swap();
        promise12Be();
        promise13Ways();
        promise14Turning();
        promise15Repaint();
        promise15OverTowers();
        promise16Odds();
        promise17See();
        promise17AfterwardsThereIsRoom();
        promise18Forget();
        promise19Runs();
        promise20Image();
        promise21Restore();
        promise22Count();
        promise23Digest();
        CHECK.end();
    }
}
