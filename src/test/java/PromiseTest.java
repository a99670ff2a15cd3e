import java.math.BigInteger;

/** Each promise of the document by itself: ordinary inputs, the edges that it names, wrong inputs. */
public final class PromiseTest {
    private static final int NONE = -1, UNKNOWN = -101, OUTSIDE = -102, STATE = -103, FULL = -104;
    private static final int[] FAR_OFF = {Integer.MIN_VALUE, -1000, -1, 1000, Integer.MAX_VALUE};
    private static final String PLAIN = "cabcdef,caabbcc,cddeeff";

    private static final Check CHECK = new Check();

    private static void due(String what, long got, long want) {
        CHECK.due(what, got, want);
    }

    private static void dueColours(String what, CubeTower tower, int cube, String want) {
        StringBuilder got = new StringBuilder();
        for (int side = 0; side < 6; side++) {
            got.append((char) ('a' + tower.cube(cube, 10 + side)));
        }
        due(what + " " + got + " for " + want, got.toString().equals(want) ? 1 : 0, 1);
    }

    private static void promise1NewObject() {
        CubeTower tower = new CubeTower();
        for (int what = 0; what <= 8; what++) {
            due("1 count " + what, tower.count(what), 0);
        }
        due("1 cube", tower.cube(0, 0), UNKNOWN);
        due("1 cube, what is wrong too", tower.cube(0, 99), UNKNOWN);
        due("1 as", tower.as(0, 0), UNKNOWN);
        due("1 wall", tower.wall(0, 0), UNKNOWN);
        due("1 wall, what is wrong too", tower.wall(0, 9), UNKNOWN);
        due("1 turn", tower.turn(0, 0), UNKNOWN);
        due("1 paint", tower.paint(0, 0, 0), UNKNOWN);
        due("1 swap", tower.swap(0, 1), UNKNOWN);
        due("1 be", tower.be(0, 0), UNKNOWN);
        due("1 ways", tower.ways(0), STATE);
        due("1 ways, what is wrong too", tower.ways(2), OUTSIDE);
        due("1 turning", tower.turning(0), STATE);
        due("1 turning, what is wrong too", tower.turning(2), OUTSIDE);
        due("1 repaint", tower.repaint(), STATE);
        due("1 repaint that was refused is not counted", tower.count(8), 0);
        due("1 odds", tower.odds(0), STATE);
        due("1 odds, what is wrong too", tower.odds(2), OUTSIDE);
        due("1 see", tower.see(0, 0, true), UNKNOWN);
        due("1 forget", tower.forget(), 0);
        due("1 runs", tower.runs(1, 0, 0), STATE);
        due("1 runs, times is wrong too", tower.runs(0, 0, 0), OUTSIDE);
        due("1 image", tower.image(), STATE);
        due("1 restore", tower.restore(), STATE);
        due("1 fault", tower.fault(), 0);
        due("1 tower", tower.tower(), STATE);
        due("1 blank", tower.blank(), 0);
    }

    private static void promise2Letter() {
        CubeTower tower = new CubeTower();
        due("2 least code", tower.letter(32), 1);
        due("2 greatest code", tower.letter(126), 2);
        due("2 code 31", tower.letter(31), OUTSIDE);
        due("2 code 127", tower.letter(127), OUTSIDE);
        for (int code : FAR_OFF) {
            due("2 code " + code, tower.letter(code), OUTSIDE);
        }
        due("2 refusals change nothing", tower.count(6), 2);
        for (int letters = 3; letters <= 26; letters++) {
            due("2 letters", tower.letter('a'), letters);
        }
        due("2 one more", tower.letter('a'), FULL);
        due("2 OUTSIDE comes first", tower.letter(200), OUTSIDE);
        due("2 letters then", tower.count(6), 26);
    }

    private static void promise3Blank() {
        CubeTower tower = new CubeTower();
        Check.type(tower, "xyz");
        due("3 had", tower.blank(), 3);
        due("3 is empty", tower.count(6), 0);
        due("3 again", tower.blank(), 0);
        due("3 first letter again", tower.letter('c'), 1);
        due("3 nothing is left of it", tower.fault(), 1);
        CubeTower other = Check.read(PLAIN);
        Check.type(other, "abc");
        due("3 with a tower", other.blank(), 3);
        due("3 the tower stays", other.count(0), 3);
    }

    private static int faultOf(String text) {
        CubeTower tower = new CubeTower();
        Check.type(tower, text);
        int fault = tower.fault();
        due("4 the page stays", tower.count(6), text.length());
        return fault;
    }

    private static void promise4Fault() {
        for (int place = 0; place < 23; place++) {
            String ahead = PLAIN.substring(0, place);
            String behind = PLAIN.substring(place + 1);
            due("4 good up to " + place, faultOf(ahead), place);
            due("4 '!' at " + place, faultOf(ahead + '!' + behind), place);
            boolean kind = place % 8 == 0;
            boolean comma = place % 8 == 7;
            for (char letter = 32; letter < 127; letter++) {
                String may = kind ? "cstfh" : comma ? "," : "abcdef";
                boolean fits = may.indexOf(letter) >= 0;
                due("4 " + letter + " at " + place, faultOf(ahead + letter), fits ? place + 1 : place);
            }
        }
        due("4 a whole tower", faultOf(PLAIN), 23);
        due("4 a fourth cube", faultOf(PLAIN + ","), 23);
        due("4 a colour behind all", faultOf(PLAIN + "aaa"), 23);
        due("4 the first of two faults", faultOf("cab!def,caabbcx"), 3);
    }

    private static void promise5Tower() {
        String longest = PLAIN + ",ca";
        for (int length = 0; length <= 26; length++) {
            CubeTower tower = new CubeTower();
            Check.type(tower, longest.substring(0, length));
            boolean good = length == 15 || length == 23;
            due("5 length " + length, tower.tower(), good ? (length + 1) / 8 : STATE);
            due("5 the page then, " + length, tower.count(6), good ? 0 : length);
            due("5 read, " + length, tower.count(7), good ? 1 : 0);
        }
        CubeTower tower = Check.read("cabcdef,sfedcba,thhhhhh");
        due("5 not a colour", tower.count(7), 0);
        tower.blank();
        Check.type(tower, "cabcdef,sfedcba,taaaabb");
        due("5 three cubes", tower.tower(), 3);
        dueColours("5", tower, 0, "abcdef");
        dueColours("5", tower, 1, "fedcba");
        dueColours("5", tower, 2, "aaaabb");
        due("5 kind of 1", tower.cube(1, 0), 1);
        due("5 kind of 2", tower.cube(2, 0), 2);

        tower.turn(0, 0);
        tower.see(0, 0, false);
        tower.repaint();
        tower.image();
        Check.type(tower, "faaaaaa,hbbbbb");
        due("5 refused", tower.tower(), STATE);
        due("5 refused: cubes stay", tower.count(0), 3);
        due("5 refused: the image stays", tower.restore(), 1);
        tower.letter('b');
        tower.ways(0);
        due("5 another one", tower.tower(), 2);
        due("5 the third is gone", tower.cube(2, 0), UNKNOWN);
        due("5 no turns", tower.count(4), 0);
        due("5 nothing seen", tower.count(5), 0);
        due("5 no sorts seen", tower.cube(0, 2), 31);
        due("5 the image is gone", tower.restore(), STATE);
        due("5 read twice", tower.count(7), 2);
        due("5 repaints go on", tower.count(8), 1);
        due("5 clashes of the new one", tower.count(1), 0);
        due("5 solutions of the new one", tower.ways(0), 2);
    }

    private static void promise6Cube() {
        int[] ways = {24, 4, 4, 1, 2};
        int[] turns = {15, 3, 12, 0, 3};
        for (int kind = 0; kind < 5; kind++) {
            char letter = "cstfh".charAt(kind);
            CubeTower tower = Check.read("caaaaaa," + letter + "aaaaaa");
            due("6 kind " + kind, tower.cube(1, 0), kind);
            due("6 ways of like sides " + kind, tower.cube(1, 1), ways[kind]);
            due("6 sorts " + kind, tower.cube(1, 2), 31);
            due("6 ask " + kind, tower.cube(1, 3), 0);
            due("6 turns " + kind, tower.cube(1, 4), turns[kind]);
        }
        CubeTower tower = Check.read("cabcdef,sbcdefa");
        for (int side = 0; side < 6; side++) {
            due("6 colour " + side, tower.cube(0, 10 + side), side);
        }
        due("6 colour of 1", tower.cube(1, 15), 0);
        for (int what : new int[] {-1, 5, 6, 9, 16, 20}) {
            due("6 what " + what, tower.cube(0, what), OUTSIDE);
        }
        for (int number : FAR_OFF) {
            due("6 what " + number, tower.cube(0, number), OUTSIDE);
            due("6 cube " + number, tower.cube(number, 0), UNKNOWN);
        }
        due("6 cube 2 of 2", tower.cube(2, 0), UNKNOWN);
        due("6 UNKNOWN comes first", tower.cube(2, 99), UNKNOWN);
        due("6 cube 2 of 3", Check.read(PLAIN).cube(2, 0), 0);
        due("6 cube 3 of 3", Check.read(PLAIN).cube(3, 0), UNKNOWN);
    }

    private static void promise7As() {
        String[] is = {"10000", "11000", "10100", "10010", "11001"};
        for (int own = 0; own < 5; own++) {
            CubeTower tower = Check.read("faaaaaa," + "cstfh".charAt(own) + "bbbbbb");
            for (int kind = 0; kind < 5; kind++) {
                due("7 " + own + " as " + kind, tower.as(1, kind), is[own].charAt(kind) == '1' ? 1 : NONE);
            }
            due("7 kind 5", tower.as(1, 5), OUTSIDE);
            due("7 cube 2", tower.as(2, 0), UNKNOWN);
            due("7 UNKNOWN comes first", tower.as(2, 5), UNKNOWN);
            for (int number : FAR_OFF) {
                due("7 kind " + number, tower.as(1, number), OUTSIDE);
                due("7 cube " + number, tower.as(number, 0), UNKNOWN);
            }
        }
        CubeTower tower = Check.read("faaaaaa,fbbbbbb,saaaaaa");
        due("7 the number of cube 2", tower.as(2, 1), 2);
        tower.be(2, 4);
        due("7 as it is since be()", tower.as(2, 4), 2);
        tower.swap(0, 2);
        due("7 as it is since swap()", tower.as(0, 4), 0);
    }

    private static void promise8Wall() {
        // Front: a a a, back: b b c, left: a b c, right: c c a; top and bottom are like.
        CubeTower tower = Check.read("faaabac,faaabbc,faaacca");
        int[] clashes = {3, 1, 0, 1};
        for (int wall = 0; wall < 4; wall++) {
            due("8 clashes on " + wall, tower.wall(wall, 1), clashes[wall]);
            due("8 good " + wall, tower.wall(wall, 0), clashes[wall] == 0 ? 1 : 0);
        }
        due("8 the first and the last clash, too", Check.read("faaabbb,faabccc,faaaddd").wall(0, 1), 1);
        due("8 wall 4", tower.wall(4, 0), UNKNOWN);
        due("8 what 2", tower.wall(0, 2), OUTSIDE);
        due("8 UNKNOWN comes first", tower.wall(4, 2), UNKNOWN);
        for (int number : FAR_OFF) {
            due("8 wall " + number, tower.wall(number, 0), UNKNOWN);
            due("8 what " + number, tower.wall(0, number), OUTSIDE);
        }
    }

    private static void promise9Turn() {
        String[] once = {"abfecd", "abefdc", "dcabef", "cdbaef"};
        for (int turn = 0; turn < 4; turn++) {
            CubeTower tower = Check.read("cabcdef,caaaaaa");
            tower.turn(0, turn);
            dueColours("9 turn " + turn, tower, 0, once[turn]);
            dueColours("9 the other stays", tower, 1, "aaaaaa");
            tower.turn(0, turn ^ 1);
            dueColours("9 and back " + turn, tower, 0, "abcdef");
            for (int time = 0; time < 4; time++) {
                tower.turn(0, turn);
            }
            dueColours("9 four times " + turn, tower, 0, "abcdef");
            due("9 counted", tower.count(4), 6);
            boolean spin = turn < 2;
            due("9 a spinner", Check.read("sabcdef,fabcdef").turn(0, turn), spin ? 0 : STATE);
            due("9 a tipper", Check.read("tabcdef,fabcdef").turn(0, turn), spin ? STATE : 2);
            due("9 a fixed one", Check.read("fabcdef,fabcdef").turn(0, turn), STATE);
            CubeTower half = Check.read("fabcdef,habcdef");
            due("9 a half", half.turn(1, turn), spin ? 0 : STATE);
            dueColours("9 a half", half, 1, spin ? "abdcfe" : "abcdef");
            due("9 a half is one turn", half.count(4), spin ? 1 : 0);
        }
        CubeTower tower = Check.read("cabcdef,faaaaaa");
        due("9 cube 2", tower.turn(2, 0), UNKNOWN);
        due("9 turn 4", tower.turn(0, 4), OUTSIDE);
        due("9 UNKNOWN before OUTSIDE", tower.turn(2, 4), UNKNOWN);
        due("9 OUTSIDE before STATE", tower.turn(1, 4), OUTSIDE);
        for (int number : FAR_OFF) {
            due("9 cube " + number, tower.turn(number, 0), UNKNOWN);
            due("9 turn " + number, tower.turn(0, number), OUTSIDE);
        }
        due("9 refusals change nothing", tower.count(4), 0);
        dueColours("9 refusals change nothing", tower, 0, "abcdef");
        due("9 clashes then", tower.turn(0, 2), 1);
        // The sixteen calls ahead of it leave room for so many in the 512 of an object.
        CubeTower often = Check.read("sabcdef,fabcdef");
        for (int turns = 1; turns <= 495; turns++) {
            due("9 turn " + turns, often.turn(0, 0), turns % 4 == 0 ? 4 : 0);
        }
        due("9 so many turns", often.count(4), 495);
    }

    private static void promise10Paint() {
        CubeTower tower = Check.read("cabcdef,caaaaaa");
        due("10 had", tower.paint(0, 2, 0), 2);
        dueColours("10 painted", tower, 0, "abadef");
        due("10 clashes", tower.count(1), 1);
        due("10 the same again", tower.paint(0, 2, 0), 0);
        tower.turn(0, 0);
        dueColours("10 turned with it", tower, 0, "abfead");
        due("10 as it lies", tower.paint(0, 4, 5), 0);
        dueColours("10 as it lies", tower, 0, "abfefd");
        due("10 greatest", tower.paint(1, 5, 5), 0);
        dueColours("10 greatest", tower, 1, "aaaaaf");
        due("10 is no turn", tower.count(4), 1);
        due("10 cube", tower.paint(2, 0, 0), UNKNOWN);
        due("10 side", tower.paint(0, 6, 0), UNKNOWN);
        due("10 colour", tower.paint(0, 0, 6), OUTSIDE);
        due("10 side before colour", tower.paint(0, 6, 6), UNKNOWN);
        due("10 cube before colour", tower.paint(2, 0, 6), UNKNOWN);
        for (int number : FAR_OFF) {
            due("10 cube " + number, tower.paint(number, 0, 0), UNKNOWN);
            due("10 side " + number, tower.paint(0, number, 0), UNKNOWN);
            due("10 colour " + number, tower.paint(0, 0, number), OUTSIDE);
        }
        dueColours("10 refusals change nothing", tower, 0, "abfefd");
    }

    private static void promise11Swap() {
        CubeTower tower = Check.read("cabcdef,saabbcc,fabdddd");
        tower.turn(0, 0);
        tower.see(0, 1, true);
        due("11 clashes", tower.swap(0, 2), 2);
        due("11 kind", tower.cube(0, 0), 3);
        due("11 kind of the other", tower.cube(2, 0), 0);
        dueColours("11 it lies as it did", tower, 2, "abfecd");
        dueColours("11 it lies as it did", tower, 0, "abdddd");
        dueColours("11 the third", tower, 1, "aabbcc");
        due("11 what is seen of it goes with it", tower.cube(2, 2), 5);
        due("11 nothing is seen of the other", tower.cube(0, 2), 31);
        due("11 is no turn", tower.count(4), 1);
        due("11 the first turn has its new number", Check.read("fabcdef,sabcdef").turning(1), 10);
        CubeTower two = Check.read("fabcdef,sabcdef");
        two.turning(1);
        due("11 two", two.swap(1, 0), 4);
        due("11 the first turn has its new number", two.turning(1), 0);
        due("11 the same", tower.swap(1, 1), UNKNOWN);
        due("11 cube 2 of 2", two.swap(0, 2), UNKNOWN);
        due("11 cube 2 of 2", two.swap(2, 0), UNKNOWN);
        for (int number : FAR_OFF) {
            due("11 one " + number, tower.swap(number, 0), UNKNOWN);
            due("11 other " + number, tower.swap(0, number), UNKNOWN);
        }
        due("11 refusals change nothing", tower.cube(0, 0), 3);
    }

    private static void promise12Be() {
        CubeTower tower = Check.read("sabcdef,fabcdef");
        due("12 was", tower.be(0, 4), 1);
        due("12 is", tower.cube(0, 0), 4);
        due("12 ways", tower.cube(0, 1), 2);
        due("12 the same again", tower.be(0, 4), 4);
        tower.turn(0, 0);
        due("12 fixed", tower.be(0, 3), 4);
        due("12 fixed can no turn", tower.turn(0, 0), STATE);
        dueColours("12 it lies as it did", tower, 0, "abdcfe");
        due("12 turns stay", tower.count(4), 1);
        due("12 a cube", tower.be(1, 0), 3);
        due("12 a cube tips", tower.turn(1, 2), 0);
        due("12 cube", tower.be(2, 0), UNKNOWN);
        due("12 kind", tower.be(0, 5), OUTSIDE);
        due("12 UNKNOWN comes first", tower.be(2, 5), UNKNOWN);
        for (int number : FAR_OFF) {
            due("12 cube " + number, tower.be(number, 0), UNKNOWN);
            due("12 kind " + number, tower.be(0, number), OUTSIDE);
        }
        due("12 refusals change nothing", tower.cube(0, 0), 3);
    }

    private static void dueWays(String text, int solutions, int least) {
        CubeTower tower = Check.read(text);
        due("13 solutions of " + text, tower.ways(0), solutions);
        due("13 least of " + text, tower.ways(1), least);
        due("13 nothing is done in " + text, tower.count(4), 0);
    }

    private static void promise13Ways() {
        dueWays("faaaaaa,faaaaaa", 0, 4);
        dueWays("faaaaaa,faaaaaa,faaaaaa", 0, 12);
        dueWays("faaaaaa,fbbbbbb,fcccccc", 1, 0);
        dueWays("caaaaaa,cbbbbbb,ccccccc", 24 * 24 * 24, 0);
        dueWays("caaaaaa,cbbbbbb", 24 * 24, 0);
        dueWays("caaaaaa,cbbbbbb,cbbbbbb", 0, 4);
        dueWays("sabcdef,fabcdef", 3, 0);
        dueWays("sabcdef,sabcdef", 12, 0);
        // The left and the right of a tipper stay, and clash.
        dueWays("tabcdef,fabcdef", 0, 2);
        dueWays("habcdef,fabcdef", 1, 0);
        // The side with b comes to each of the six places alike often, and is bad on the left alone.
        dueWays("caaaaab,fccccbc", 20, 0);
        CubeTower tower = Check.read("sabcdef,fabcdef");
        due("13 before", tower.ways(0), 3);
        tower.be(0, 4);
        due("13 after be()", tower.ways(0), 1);
        tower.paint(0, 3, 2);
        due("13 after paint()", tower.ways(0), 0);
        due("13 after paint()", tower.ways(1), 1);
        for (int what : new int[] {-1, 2, Integer.MIN_VALUE, Integer.MAX_VALUE}) {
            due("13 what " + what, tower.ways(what), OUTSIDE);
        }
    }

    private static void dueTurning(String text, int turns, int first) {
        CubeTower tower = Check.read(text);
        due("14 how many, " + text, tower.turning(0), turns);
        due("14 which first, " + text, tower.turning(1), first);
    }

    private static void promise14Turning() {
        dueTurning("faaaaaa,fbbbbbb", 0, NONE);
        dueTurning("faaaaaa,faaaaaa", NONE, NONE);
        dueTurning("sabcdef,fabcdef", 1, 0);
        dueTurning("fabcdef,sabcdef", 1, 10);
        dueTurning("faaaaaa,fbbbbbb,scccccc", 0, NONE);
        dueTurning("tabcdee,fabcdaa", 1, 2);
        dueTurning("fabcdaa,fffffff,tabcdee", 1, 22);
        dueTurning("habcdef,fabcdef", 1, 0);
        // As it lies the fronts clash, after a SPIN the backs, after one back the lefts.
        dueTurning("saaabcd,faaacbe", 2, 0);
        dueTurning("faaacbe,saaabcd", 2, 10);
        // As it lies the fronts clash, after a SPIN the backs, after two the rights.
        dueTurning("saaabcd,faaacec", 1, 1);
        dueTurning("faaacec,fffffff,saaabcd", 1, 21);
        // A SPIN would do, too, but with a TIP of the other.
        dueTurning("sabacdc,tbdbddd", 1, 1);
        CubeTower tower = Check.read("sabcdef,fabcdef");
        tower.turning(0);
        tower.turn(0, 1);
        due("14 after the turn", tower.turning(0), 0);
        due("14 after the turn", tower.turning(1), NONE);
        due("14 the turns that were are no matter", tower.count(4), 1);
        for (int what : new int[] {-1, 2, Integer.MIN_VALUE, Integer.MAX_VALUE}) {
            due("14 what " + what, tower.turning(what), OUTSIDE);
        }
    }

    private static void promise15Repaint() {
        due("15 as it is", Check.read("sabcdef,fabcdef").repaint(), -2);
        due("15 it is right", Check.read("faaaaaa,fbbbbbb").repaint(), -2);
        due("15 left of cube 0", Check.read("faaaaaa,fbbbbab").repaint(), 41);
        due("15 not the colour of the third", Check.read("faaaaaa,fbbbbab,fccccbc").repaint(), 42);
        due("15 only cube 1", Check.read("faaaaaa,fbbbbcb,fddddcd").repaint(), 141);
        due("15 none", Check.read("faaaaaa,fbbbaab").repaint(), NONE);
        // Its left stays on the left, however it tips.
        due("15 a tipper", Check.read("tabcdef,faaaaea").repaint(), 40);
        // Each two sides over against one another have a c, but only one wall has room for it.
        due("15 the top of a cube", Check.read("ccacbcb,saacccb").repaint(), 0);
        due("15 the front of cube 0", Check.read("faaaabb,taabacc").repaint(), 21);
        // Three walls clash in every way, and one side is on one wall alone.
        due("15 none of three", Check.read("sabaaba,hbbaaaa,hccbcbc").repaint(), NONE);
        // The last has a b on a wall in every way, where no b can be before the front has room.
        due("15 room for many ways", Check.read("fcabbbb,cccabdd,cddbcba").repaint(), 20);
        CubeTower tower = Check.read("faaaaaa,fbbbbab");
        for (int time = 1; time <= 10; time++) {
            due("15 time " + time, tower.repaint(), 41);
            due("15 counted " + time, tower.count(8), time);
        }
        due("15 nothing is painted", tower.cube(0, 14), 0);
        due("15 once more", tower.repaint(), STATE);
        due("15 once more is not counted", tower.count(8), 10);
        Check.type(tower, "faaaaaa,fbbbbbb");
        tower.tower();
        due("15 also with another tower", tower.repaint(), STATE);
    }

    private static void dueOdds(String text, int above, int below) {
        CubeTower tower = Check.read(text);
        due("16 above, " + text, tower.odds(0), above);
        due("16 below, " + text, tower.odds(1), below);
    }

    private static void promise16Odds() {
        dueOdds("sabcdef,fabcdef", 3, 4);
        dueOdds("sabcdef,sabcdef", 3, 4);
        dueOdds("faaaaaa,faaaaaa", 0, 1);
        dueOdds("caaaaaa,caaaaaa,caaaaaa", 0, 1);
        dueOdds("caaaaaa,cbbbbbb,ccccccc", 1, 1);
        dueOdds("habcdef,fabcdef", 1, 2);
        dueOdds("caaaaab,fccccbc", 5, 6);
        CubeTower tower = Check.read("sabcdef,fabcdef");
        for (int what : new int[] {-1, 2, Integer.MIN_VALUE, Integer.MAX_VALUE}) {
            due("16 what " + what, tower.odds(what), OUTSIDE);
        }
    }

    private static void dueSeen(String seen, int sorts, int ask) {
        CubeTower tower = Check.read("caaaaaa,faaaaaa");
        for (int at = 0; at + 1 < seen.length(); at += 2) {
            tower.see(1, seen.charAt(at) - '0', seen.charAt(at + 1) == '+');
        }
        due("17 sorts, " + seen, tower.cube(1, 2), sorts);
        due("17 ask, " + seen, tower.cube(1, 3), ask);
        due("17 sorts of the other, " + seen, tower.cube(0, 2), 31);
    }

    private static void promise17See() {
        dueSeen("", 31, 0);
        dueSeen("0+", 3, 1);
        dueSeen("0-", 28, 1);
        dueSeen("1+", 5, 0);
        dueSeen("1-", 26, 0);
        dueSeen("2+", 19, 0);
        dueSeen("2-", 12, 1);
        dueSeen("1-2+", 18, 0);
        dueSeen("1-0-", 24, 2);
        dueSeen("0+1+", 1, 0);
        dueSeen("0+1-", 2, 0);
        dueSeen("0-1+", 4, 0);
        dueSeen("0-2+", 16, 0);
        dueSeen("0-1-2-", 8, 0);
        dueSeen("0+0-", 0, NONE);
        dueSeen("0+2-", 0, NONE);
        CubeTower tower = Check.read("caaaaaa,faaaaaa,faaaaaa");
        due("17 cube", tower.see(3, 0, true), UNKNOWN);
        due("17 what", tower.see(0, 3, true), OUTSIDE);
        due("17 UNKNOWN comes first", tower.see(3, 3, true), UNKNOWN);
        for (int number : FAR_OFF) {
            due("17 cube " + number, tower.see(number, 0, true), UNKNOWN);
            due("17 what " + number, tower.see(0, number, true), OUTSIDE);
        }
        for (int seen = 1; seen <= 6; seen++) {
            due("17 the same is seen again", tower.see(seen % 3, 0, true), seen);
        }
        due("17 one more", tower.see(0, 1, true), FULL);
        due("17 OUTSIDE before FULL", tower.see(0, 3, true), OUTSIDE);
        due("17 UNKNOWN before FULL", tower.see(3, 0, true), UNKNOWN);
        due("17 refusals change nothing", tower.cube(0, 2), 3);
        due("17 refusals change nothing", tower.count(5), 6);
        due("17 the kind is as it was", tower.cube(0, 0), 0);
    }

    private static void promise18Forget() {
        CubeTower tower = Check.read("caaaaaa,faaaaaa");
        tower.see(0, 0, true);
        tower.see(1, 0, false);
        due("18 had", tower.forget(), 2);
        due("18 none", tower.count(5), 0);
        due("18 sorts of 0", tower.cube(0, 2), 31);
        due("18 sorts of 1", tower.cube(1, 2), 31);
        due("18 again", tower.forget(), 0);
        due("18 from the first again", tower.see(0, 0, true), 1);
    }

    /** What the runs would come to, done by turn() itself on a tower of its own. */
    private static int[] done(String text, int times, int seed) {
        CubeTower tower = Check.read(text);
        BigInteger drawn = BigInteger.valueOf(seed);
        BigInteger[] by = {BigInteger.valueOf(tower.count(0)), BigInteger.valueOf(4)};
        int[] draws = new int[2];
        int right = 0;
        for (int time = 0; time < times; time++) {
            for (int part = 0; part < 2; part++) {
                drawn = drawn.multiply(BigInteger.valueOf(1103515245)).add(BigInteger.valueOf(12345))
                        .mod(BigInteger.ONE.shiftLeft(31));
                draws[part] = drawn.shiftRight(16).mod(by[part]).intValue();
            }
            tower.turn(draws[0], draws[1]);
            right += tower.count(2) == 4 ? 1 : 0;
        }
        return new int[] {right, tower.count(1), drawn.intValueExact()};
    }

    private static void promise19Runs() {
        String[] texts = {"sabcdef,fabcdef", PLAIN, "tabcdef,hfedcba,cabcabc", "faaaaaa,fbbbbbb"};
        int[] seeds = {0, 1, 77, 65536, 123456789, Integer.MAX_VALUE};
        for (String text : texts) {
            CubeTower tower = Check.read(text);
            long before = tower.digest();
            for (int seed : seeds) {
                for (int times : new int[] {1, 2, 50, 99}) {
                    int[] want = done(text, times, seed);
                    for (int what = 0; what < 3; what++) {
                        due("19 " + text + " " + times + " " + seed + " " + what,
                                tower.runs(times, seed, what), want[what]);
                    }
                }
            }
            due("19 nothing is done", tower.digest(), before);
        }
        CubeTower right = Check.read("faaaaaa,fbbbbbb");
        due("19 right each time, though nothing can be done", right.runs(99, 3, 0), 99);
        for (int number : FAR_OFF) {
            due("19 times " + number, right.runs(number, 0, 0), OUTSIDE);
            due("19 what " + number, right.runs(1, 0, number), OUTSIDE);
        }
        due("19 times 0", right.runs(0, 0, 0), OUTSIDE);
        due("19 times 100", right.runs(100, 0, 0), OUTSIDE);
        due("19 seed -1", right.runs(1, -1, 0), OUTSIDE);
        due("19 least seed", right.runs(1, Integer.MIN_VALUE, 0), OUTSIDE);
        due("19 what 3", right.runs(1, 0, 3), OUTSIDE);
    }

    private static void promise20Image() {
        CubeTower tower = Check.read("cabcdef,saabbcc,fabdddd");
        due("20 no turns", tower.image(), 0);
        tower.turn(0, 0);
        tower.see(0, 1, true);
        due("20 turns", tower.image(), 1);
        long digest = tower.digest();
        due("20 the same again", tower.image(), 1);
        due("20 nothing else changes", tower.digest(), digest);
        tower.turn(0, 1);
        due("20 the latest", tower.image(), 2);
        tower.turn(0, 1);
        due("20 the latest is kept", tower.restore(), 2);
        dueColours("20 the latest is kept", tower, 0, "abcdef");
        Check.type(tower, "faaaaaa,fbbbbbb");
        tower.tower();
        due("20 of another tower", tower.image(), 0);
        due("20 of another tower", tower.restore(), 0);
        due("20 the other tower", tower.count(0), 2);
    }

    private static void promise21Restore() {
        CubeTower tower = Check.read("cabcdef,saabbcc,fabdddd");
        due("21 none was kept", tower.restore(), STATE);
        tower.turn(0, 0);
        tower.see(0, 1, true);
        tower.image();
        long digest = tower.digest();
        for (int time = 0; time < 2; time++) {
            tower.turn(0, 2);
            tower.turn(1, 0);
            tower.paint(0, 0, 5);
            tower.paint(2, 3, 0);
            tower.be(1, 4);
            tower.swap(0, 2);
            tower.see(1, 0, false);
            tower.ways(0);
            due("21 turns as they were", tower.restore(), 1);
            due("21 all is as it was", tower.digest(), digest);
            dueColours("21 it lies as it did", tower, 0, "abfecd");
            due("21 sorts", tower.cube(0, 2), 5);
        }
        Check.type(tower, "faaaaaa,fbbbbbb");
        due("21 letters alone are no other tower", tower.restore(), 1);
        due("21 the page is no part of it", tower.count(6), 15);
        tower.repaint();
        tower.restore();
        due("21 repaints are no part of it", tower.count(8), 1);
        tower.tower();
        due("21 another tower since", tower.restore(), STATE);
        due("21 the other tower stays", tower.count(0), 2);
    }

    private static void promise22Count() {
        // Front and back clash once each, on the right all three do.
        CubeTower tower = Check.read("caabbcd,sbaabed,ffabbad");
        tower.turn(0, 2);
        tower.turn(0, 3);
        tower.see(0, 0, true);
        tower.repaint();
        Check.type(tower, "xyz!");
        int[] want = {3, 1 + 3 + 0 + 3, 1, 6, 2, 1, 4, 1, 1};
        for (int what = 0; what <= 8; what++) {
            due("22 what " + what, tower.count(what), want[what]);
        }
        due("22 colours on top, too", Check.read("fabaaaa,fcdaaaa").count(3), 4);
        due("22 one colour", Check.read("faaaaaa,faaaaaa").count(3), 1);
        due("22 all good", Check.read("faaaaaa,fbbbbbb").count(2), 4);
        due("22 none good", Check.read("faaaaaa,faaaaaa").count(2), 0);
        due("22 what 9", tower.count(9), OUTSIDE);
        for (int number : FAR_OFF) {
            due("22 what " + number, tower.count(number), OUTSIDE);
        }
    }

    private static long digestOf(long... numbers) {
        long sum = 1319;
        for (long number : numbers) {
            sum = 31 * sum + number;
        }
        return sum;
    }

    private static void promise23Digest() {
        CubeTower tower = new CubeTower();
        due("23 new", tower.digest(), digestOf(0, 0, 0, 0, 0, 0, 0, 0, 0));
        Check.type(tower, "c!");
        due("23 the page", tower.digest(), digestOf('c', '!', 0, 0, 0, 0, 0, 0, 2, 0, 0));
        tower.blank();
        Check.type(tower, "sabcdef,fabcdef");
        tower.tower();
        Check.type(tower, "~");
        tower.see(1, 0, false);
        long want = digestOf(
                1, 4, 31, 0, 3, 0, 1, 2, 3, 4, 5,
                3, 1, 28, 1, 0, 0, 1, 2, 3, 4, 5,
                0, 1, 0, 1, 0, 1, 0, 1,
                3, 0, 1, 0, 3, 4,
                '~',
                2, 4, 0, 6, 0, 1, 1, 1, 0);
        due("23 a tower", tower.digest(), want);
        due("23 changes nothing", tower.digest(), want);
        CubeTower right = Check.read("faaaaaa,fbabbbb");
        due("23 it is right", right.digest(), digestOf(
                3, 1, 31, 0, 0, 0, 0, 0, 0, 0, 0,
                3, 1, 31, 0, 0, 1, 0, 1, 1, 1, 1,
                1, 0, 1, 0, 1, 0, 1, 0,
                1, 0, 0, -1, 1, 1,
                2, 0, 4, 2, 0, 0, 0, 1, 0));
        CubeTower none = Check.read("faaaaaa,faaaaaa");
        due("23 no solution", none.digest(), digestOf(
                3, 1, 31, 0, 0, 0, 0, 0, 0, 0, 0,
                3, 1, 31, 0, 0, 0, 0, 0, 0, 0, 0,
                0, 1, 0, 1, 0, 1, 0, 1,
                0, 4, -1, -1, 0, 1,
                2, 4, 0, 1, 0, 0, 0, 1, 0));
    }

    public static void main(String[] args) {
        promise1NewObject();
        promise2Letter();
        promise3Blank();
        promise4Fault();
        promise5Tower();
        promise6Cube();
        promise7As();
        promise8Wall();
        promise9Turn();
        promise10Paint();
        promise11Swap();
        promise12Be();
        promise13Ways();
        promise14Turning();
        promise15Repaint();
        promise16Odds();
        promise17See();
        promise18Forget();
        promise19Runs();
        promise20Image();
        promise21Restore();
        promise22Count();
        promise23Digest();
        CHECK.end();
    }
}
