import java.util.Random;

/** Runs of calls drawn by a seed, each answered by the program and by the model. */
public final class ModelTest {
    private static final int RUNS = 400, STEPS = 70;
    /** An object has to stand so many calls; one step takes some thirty at most. */
    private static final int MOST_CALLS = 512, MOST_CALLS_OF_STEP = 32;

    private final Check check;
    private final Random random;
    private final CubeTower tower = new CubeTower();
    private final Model model = new Model();
    private final StringBuilder told = new StringBuilder();
    private final int colours;
    /** Plain cubes only in some runs: the model tries all of their ways, and that takes long. */
    private final boolean plain;
    /** Whether the run goes on to the last call that an object has to stand. */
    private final boolean toTheLast;
    private int calls;

    private ModelTest(Check check, int seed) {
        this.check = check;
        random = new Random(seed);
        colours = 2 + random.nextInt(5);
        plain = seed % 8 == 0;
        toTheLast = seed % 9 == 0;
    }

    private void same(String call, long got, long want) {
        calls++;
        told.append(' ').append(call);
        check.due(told.toString(), got, want);
    }

    private int upTo(int most) {
        return random.nextInt(most + 1);
    }

    /** Mostly a number from 0 to most, now and then one beside it or far off. */
    private int around(int most) {
        int off = random.nextInt(24);
        return off == 0 ? -1 : off == 1 ? most + 1 : off == 2 ? random.nextInt() : upTo(most);
    }

    private int kind() {
        int kind = upTo(4);
        return kind == 0 && !plain ? 1 : kind;
    }

    private String text() {
        StringBuilder text = new StringBuilder();
        int cubes = 2 + upTo(1);
        for (int cube = 0; cube < cubes; cube++) {
            text.append(cube == 0 ? "" : ",").append("cstfh".charAt(kind()));
            for (int side = 0; side < 6; side++) {
                text.append((char) ('a' + random.nextInt(colours)));
            }
        }
        if (upTo(5) == 0) {
            text.setCharAt(upTo(text.length() - 1), (char) (32 + upTo(94)));
        }
        if (upTo(7) == 0) {
            text.setLength(upTo(text.length()));
        }
        if (upTo(7) == 0) {
            text.append(",ca!x".charAt(upTo(4)));
        }
        return text.toString();
    }

    private void type(String text) {
        for (char letter : text.toCharArray()) {
            same("letter(" + (int) letter + ")", tower.letter(letter), model.letter(letter));
        }
    }

    private void page() {
        switch (upTo(9)) {
            case 0:
                int code = upTo(1) == 0 ? 31 : upTo(1) == 0 ? 127 : random.nextInt();
                same("letter(" + code + ")", tower.letter(code), model.letter(code));
                break;
            case 1:
                type("a,c");
                break;
            case 2:
                same("blank()", tower.blank(), model.blank());
                break;
            default:
                if (upTo(4) > 0) {
                    same("blank()", tower.blank(), model.blank());
                }
                type(text());
                same("fault()", tower.fault(), model.fault());
                same("tower()", tower.tower(), model.tower());
                break;
        }
    }

    private void ask() {
        int cube = around(2);
        int what = upTo(2) == 0 ? 10 + around(5) : around(4);
        same("cube(" + cube + "," + what + ")", tower.cube(cube, what), model.cube(cube, what));
        int kind = around(4);
        same("as(" + cube + "," + kind + ")", tower.as(cube, kind), model.as(cube, kind));
        int wall = around(3);
        what = around(1);
        same("wall(" + wall + "," + what + ")", tower.wall(wall, what), model.wall(wall, what));
        what = around(8);
        same("count(" + what + ")", tower.count(what), model.count(what));
    }

    private void change() {
        int cube = around(2);
        int other = around(2);
        switch (upTo(5)) {
            case 0:
                int side = around(5);
                int colour = upTo(8) == 0 ? around(5) : random.nextInt(colours);
                same("paint(" + cube + "," + side + "," + colour + ")",
                        tower.paint(cube, side, colour), model.paint(cube, side, colour));
                break;
            case 1:
                same("swap(" + cube + "," + other + ")", tower.swap(cube, other), model.swap(cube, other));
                break;
            case 2:
                int kind = upTo(8) == 0 ? 5 : kind();
                same("be(" + cube + "," + kind + ")", tower.be(cube, kind), model.be(cube, kind));
                break;
            default:
                int turn = around(3);
                same("turn(" + cube + "," + turn + ")", tower.turn(cube, turn), model.turn(cube, turn));
                break;
        }
    }

    private void search() {
        int what = upTo(9) == 0 ? around(1) : upTo(1);
        switch (upTo(6)) {
            case 0:
                same("ways(" + what + ")", tower.ways(what), model.ways(what));
                break;
            case 1:
            case 2:
                same("turning(" + what + ")", tower.turning(what), model.turning(what));
                break;
            case 3:
                same("repaint()", tower.repaint(), model.repaint());
                break;
            case 4:
                same("odds(" + what + ")", tower.odds(what), model.odds(what));
                break;
            default:
                same("digest()", tower.digest(), model.digest());
                break;
        }
    }

    private void watch() {
        int cube = around(2);
        int what = around(2);
        boolean could = random.nextBoolean();
        switch (upTo(8)) {
            case 0:
                same("forget()", tower.forget(), model.forget());
                break;
            case 1:
            case 2:
                int times = upTo(6) == 0 ? upTo(1) * 100 : 1 + upTo(98);
                int seed = upTo(8) == 0 ? random.nextInt() : upTo(Integer.MAX_VALUE - 1);
                same("runs(" + times + "," + seed + "," + what + ")",
                        tower.runs(times, seed, what), model.runs(times, seed, what));
                break;
            case 3:
                same("image()", tower.image(), model.image());
                break;
            case 4:
                same("restore()", tower.restore(), model.restore());
                break;
            default:
                same("see(" + cube + "," + what + "," + could + ")",
                        tower.see(cube, what, could), model.see(cube, what, could));
                break;
        }
    }

    private void step() {
        int part = upTo(19);
        if (part < 2) {
            page();
        } else if (part < 5) {
            ask();
        } else if (part < 11) {
            change();
        } else if (part < 15) {
            search();
        } else {
            watch();
        }
    }

    private void go() {
        int steps = toTheLast ? MOST_CALLS : STEPS;
        int room = MOST_CALLS - MOST_CALLS_OF_STEP;
        for (int step = 0; step < steps && calls < room && check.allRight(); step++) {
            step();
        }
        while (toTheLast && calls < MOST_CALLS - 1 && check.allRight()) {
            change();
        }
        same("digest()", tower.digest(), model.digest());
        check.due("calls of one object at most", Math.max(calls, MOST_CALLS), MOST_CALLS);
    }

    public static void main(String[] args) {
        Check check = new Check();
        for (int seed = 0; seed < RUNS && check.allRight(); seed++) {
            new ModelTest(check, seed).go();
        }
        check.end();
    }
}
