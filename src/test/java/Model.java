import java.util.ArrayList;
import java.util.HashSet;
import java.util.LinkedHashMap;
import java.util.List;
import java.util.Map;
import java.util.Set;

/**
 * The document once more, in its plainest form and by other means than the program: cubes are texts
 * of six letters, ways are found by search, and every question is answered by trying all there is.
 */
final class Model {
    private static final int UNKNOWN = -101, OUTSIDE = -102, STATE = -103, FULL = -104;
    private static final String KIND_LETTERS = "cstfh";

    private record Seen(int what, boolean could) { }

    private static final class Block {
        int kind;
        String sides;
        List<Seen> seen = new ArrayList<>();

        Block copy() {
            Block copy = new Block();
            copy.kind = kind;
            copy.sides = sides;
            copy.seen = new ArrayList<>(seen);
            return copy;
        }
    }

    private String page = "";
    private List<Block> blocks = new ArrayList<>();
    private int turns;
    private int towers;
    private int repaints;
    private List<Block> keptBlocks;
    private int keptTurns;

    // ---- turns of one cube, by the words of the document

    private static String spin(String s) {
        char front = s.charAt(2), back = s.charAt(3), left = s.charAt(4), right = s.charAt(5);
        return "" + s.charAt(0) + s.charAt(1) + right + left + front + back;
    }

    private static String tip(String s) {
        char top = s.charAt(0), bottom = s.charAt(1), front = s.charAt(2), back = s.charAt(3);
        return "" + back + front + top + bottom + s.charAt(4) + s.charAt(5);
    }

    /** The sides after a turn, or null if that kind cannot do it. */
    private static String turned(String sides, int kind, int turn) {
        boolean spins = turn < 2;
        if (kind == 3 || kind == 2 && spins || (kind == 1 || kind == 4) && !spins) {
            return null;
        }
        int quarters = turn % 2 == 0 ? 1 : 3;
        if (kind == 4) {
            quarters *= 2;
        }
        String result = sides;
        for (int quarter = 0; quarter < quarters; quarter++) {
            result = spins ? spin(result) : tip(result);
        }
        return result;
    }

    /** All arrangements of the places "012345" that a kind comes to. */
    private static List<String> arrangements(int kind) {
        Set<String> known = new HashSet<>();
        List<String> found = new ArrayList<>();
        known.add("012345");
        found.add("012345");
        for (int at = 0; at < found.size(); at++) {
            for (int turn = 0; turn < 4; turn++) {
                String next = turned(found.get(at), kind, turn);
                if (next != null && known.add(next)) {
                    found.add(next);
                }
            }
        }
        return found;
    }

    private static String laid(String sides, String arrangement) {
        StringBuilder text = new StringBuilder();
        for (int place = 0; place < 6; place++) {
            text.append(sides.charAt(arrangement.charAt(place) - '0'));
        }
        return text.toString();
    }

    private static int clashes(List<String> cubes, int wall) {
        int clashes = 0;
        for (int one = 0; one < cubes.size(); one++) {
            for (int other = 0; other < one; other++) {
                if (cubes.get(one).charAt(2 + wall) == cubes.get(other).charAt(2 + wall)) {
                    clashes++;
                }
            }
        }
        return clashes;
    }

    private static int clashes(List<String> cubes) {
        return clashes(cubes, 0) + clashes(cubes, 1) + clashes(cubes, 2) + clashes(cubes, 3);
    }

    private List<String> lying() {
        List<String> cubes = new ArrayList<>();
        for (Block block : blocks) {
            cubes.add(block.sides);
        }
        return cubes;
    }

    private boolean has(int cube) {
        return cube >= 0 && cube < blocks.size();
    }

    // ---- the face

    int letter(int code) {
        if (code < 32 || code > 126) {
            return OUTSIDE;
        }
        if (page.length() == 26) {
            return FULL;
        }
        page += (char) code;
        return page.length();
    }

    int blank() {
        int had = page.length();
        page = "";
        return had;
    }

    /** Whether some tower begins with the text. */
    private static boolean begins(String text) {
        String whole = text.length() > 15 ? "c......,c......,c......" : "c......,c......,";
        if (text.length() > whole.length()) {
            return false;
        }
        for (int at = 0; at < text.length(); at++) {
            String may = switch (whole.charAt(at)) {
                case 'c' -> KIND_LETTERS;
                case '.' -> "abcdef";
                default -> ",";
            };
            if (may.indexOf(text.charAt(at)) < 0) {
                return false;
            }
        }
        return true;
    }

    int fault() {
        for (int length = 1; length <= page.length(); length++) {
            if (!begins(page.substring(0, length))) {
                return length - 1;
            }
        }
        return page.length();
    }

    int tower() {
        if (!page.matches("[cstfh][a-f]{6}(,[cstfh][a-f]{6}){1,2}")) {
            return STATE;
        }
        blocks = new ArrayList<>();
        for (String text : page.split(",")) {
            Block block = new Block();
            block.kind = KIND_LETTERS.indexOf(text.charAt(0));
            block.sides = text.substring(1);
            blocks.add(block);
        }
        page = "";
        turns = 0;
        towers++;
        keptBlocks = null;
        return blocks.size();
    }

    private static boolean couldDo(int kind, int what) {
        String once = turned("abcdef", kind, what == 1 ? 2 : 0);
        if (what < 2) {
            String quarter = what == 0 ? spin("abcdef") : tip("abcdef");
            return once != null && once.equals(quarter);
        }
        String half = spin(spin("abcdef"));
        return once != null && (once.equals(half) || turned(once, kind, 0).equals(half));
    }

    private static int sorts(List<Seen> seen) {
        int bits = 0;
        for (int kind = 0; kind < 5; kind++) {
            boolean may = true;
            for (Seen one : seen) {
                may &= couldDo(kind, one.what()) == one.could();
            }
            bits |= may ? 1 << kind : 0;
        }
        return bits;
    }

    private static int ask(List<Seen> seen) {
        if (sorts(seen) == 0) {
            return -1;
        }
        int best = -1;
        int fewest = 99;
        for (int what = 0; what < 3; what++) {
            int worst = 0;
            for (boolean could : new boolean[] {true, false}) {
                List<Seen> then = new ArrayList<>(seen);
                then.add(new Seen(what, could));
                worst = Math.max(worst, Integer.bitCount(sorts(then)));
            }
            if (worst < fewest) {
                fewest = worst;
                best = what;
            }
        }
        return best;
    }

    int cube(int cube, int what) {
        if (!has(cube)) {
            return UNKNOWN;
        }
        Block block = blocks.get(cube);
        if (what == 4) {
            int bits = 0;
            for (int turn = 0; turn < 4; turn++) {
                bits |= turned("abcdef", block.kind, turn) != null ? 1 << turn : 0;
            }
            return bits;
        }
        if (what >= 10 && what <= 15) {
            return block.sides.charAt(what - 10) - 'a';
        }
        return what == 0 ? block.kind
                : what == 1 ? arrangements(block.kind).size()
                : what == 2 ? sorts(block.seen)
                : what == 3 ? ask(block.seen)
                : OUTSIDE;
    }

    int as(int cube, int kind) {
        if (!has(cube)) {
            return UNKNOWN;
        }
        if (kind < 0 || kind > 4) {
            return OUTSIDE;
        }
        int own = blocks.get(cube).kind;
        return kind == 0 || kind == own || own == 4 && kind == 1 ? cube : -1;
    }

    int wall(int wall, int what) {
        if (wall < 0 || wall > 3 || blocks.isEmpty()) {
            return UNKNOWN;
        }
        if (what != 0 && what != 1) {
            return OUTSIDE;
        }
        int clashes = clashes(lying(), wall);
        return what == 1 ? clashes : clashes == 0 ? 1 : 0;
    }

    int turn(int cube, int turn) {
        if (!has(cube)) {
            return UNKNOWN;
        }
        if (turn < 0 || turn > 3) {
            return OUTSIDE;
        }
        Block block = blocks.get(cube);
        String sides = turned(block.sides, block.kind, turn);
        if (sides == null) {
            return STATE;
        }
        block.sides = sides;
        turns++;
        return clashes(lying());
    }

    private static String painted(String sides, int side, int colour) {
        return sides.substring(0, side) + (char) ('a' + colour) + sides.substring(side + 1);
    }

    int paint(int cube, int side, int colour) {
        if (!has(cube) || side < 0 || side > 5) {
            return UNKNOWN;
        }
        if (colour < 0 || colour > 5) {
            return OUTSIDE;
        }
        Block block = blocks.get(cube);
        int had = block.sides.charAt(side) - 'a';
        block.sides = painted(block.sides, side, colour);
        return had;
    }

    int swap(int one, int other) {
        if (!has(one) || !has(other) || one == other) {
            return UNKNOWN;
        }
        Block moved = blocks.get(one);
        blocks.set(one, blocks.get(other));
        blocks.set(other, moved);
        return clashes(lying());
    }

    int be(int cube, int kind) {
        if (!has(cube)) {
            return UNKNOWN;
        }
        if (kind < 0 || kind > 4) {
            return OUTSIDE;
        }
        int had = blocks.get(cube).kind;
        blocks.get(cube).kind = kind;
        return had;
    }

    /** How many ways of all cubes together have how many clashes. */
    private Map<Integer, Integer> tally(List<String> cubes) {
        List<List<String>> all = new ArrayList<>();
        all.add(new ArrayList<>());
        for (int cube = 0; cube < cubes.size(); cube++) {
            List<List<String>> more = new ArrayList<>();
            for (String arrangement : arrangements(blocks.get(cube).kind)) {
                for (List<String> below : all) {
                    List<String> with = new ArrayList<>(below);
                    with.add(laid(cubes.get(cube), arrangement));
                    more.add(with);
                }
            }
            all = more;
        }
        Map<Integer, Integer> tally = new LinkedHashMap<>();
        for (List<String> one : all) {
            tally.merge(clashes(one), 1, Integer::sum);
        }
        return tally;
    }

    int ways(int what) {
        if (what != 0 && what != 1) {
            return OUTSIDE;
        }
        if (blocks.isEmpty()) {
            return STATE;
        }
        Map<Integer, Integer> tally = tally(lying());
        if (what == 0) {
            return tally.getOrDefault(0, 0);
        }
        int least = 99;
        for (int clashes : tally.keySet()) {
            least = Math.min(least, clashes);
        }
        return least;
    }

    /** The fewest turns from this state of all cubes to a right one, or -1: breadth first. */
    private int fewestFrom(List<String> start) {
        Map<List<String>, Integer> far = new LinkedHashMap<>();
        List<List<String>> queue = new ArrayList<>();
        far.put(start, 0);
        queue.add(start);
        for (int at = 0; at < queue.size(); at++) {
            List<String> state = queue.get(at);
            if (clashes(state) == 0) {
                return far.get(state);
            }
            for (int code = 0; code < 4 * state.size(); code++) {
                List<String> next = after(state, code / 4, code % 4);
                if (next != null && !far.containsKey(next)) {
                    far.put(next, far.get(state) + 1);
                    queue.add(next);
                }
            }
        }
        return -1;
    }

    private List<String> after(List<String> state, int cube, int turn) {
        String sides = turned(state.get(cube), blocks.get(cube).kind, turn);
        if (sides == null) {
            return null;
        }
        List<String> next = new ArrayList<>(state);
        next.set(cube, sides);
        return next;
    }

    int turning(int what) {
        if (what != 0 && what != 1) {
            return OUTSIDE;
        }
        if (blocks.isEmpty()) {
            return STATE;
        }
        int fewest = fewestFrom(lying());
        if (what == 0 || fewest < 1) {
            return what == 0 ? fewest : -1;
        }
        for (int code = 0; code < 4 * blocks.size(); code++) {
            List<String> next = after(lying(), code / 4, code % 4);
            if (next != null && fewestFrom(next) == fewest - 1) {
                return 10 * (code / 4) + code % 4;
            }
        }
        throw new AssertionError("no first turn");
    }

    int repaint() {
        if (blocks.isEmpty() || repaints == 10) {
            return STATE;
        }
        repaints++;
        if (tally(lying()).containsKey(0)) {
            return -2;
        }
        for (int cube = 0; cube < blocks.size(); cube++) {
            for (int side = 0; side < 6; side++) {
                for (int colour = 0; colour < 6; colour++) {
                    List<String> cubes = lying();
                    cubes.set(cube, painted(cubes.get(cube), side, colour));
                    if (tally(cubes).containsKey(0)) {
                        return 100 * cube + 10 * side + colour;
                    }
                }
            }
        }
        return -1;
    }

    int odds(int what) {
        if (what != 0 && what != 1) {
            return OUTSIDE;
        }
        if (blocks.isEmpty()) {
            return STATE;
        }
        Map<Integer, Integer> tally = tally(lying());
        int above = tally.getOrDefault(0, 0);
        int below = 0;
        for (int ways : tally.values()) {
            below += ways;
        }
        for (int part = below; part > 1; part--) {
            if (above % part == 0 && below % part == 0) {
                above /= part;
                below /= part;
            }
        }
        return what == 0 ? above : below;
    }

    private int seenInAll() {
        int seen = 0;
        for (Block block : blocks) {
            seen += block.seen.size();
        }
        return seen;
    }

    int see(int cube, int what, boolean could) {
        if (!has(cube)) {
            return UNKNOWN;
        }
        if (what < 0 || what > 2) {
            return OUTSIDE;
        }
        if (seenInAll() == 6) {
            return FULL;
        }
        blocks.get(cube).seen.add(new Seen(what, could));
        return seenInAll();
    }

    int forget() {
        int had = seenInAll();
        for (Block block : blocks) {
            block.seen.clear();
        }
        return had;
    }

    int runs(int times, int seed, int what) {
        if (times < 1 || times > 99 || seed < 0 || what < 0 || what > 2) {
            return OUTSIDE;
        }
        if (blocks.isEmpty()) {
            return STATE;
        }
        long drawn = seed;
        long modulus = 2147483648L;
        int right = 0;
        List<String> cubes = lying();
        for (int time = 0; time < times; time++) {
            drawn = (1103515245L * drawn + 12345L) % modulus;
            int cube = (int) (drawn / 65536 % cubes.size());
            drawn = (1103515245L * drawn + 12345L) % modulus;
            List<String> next = after(cubes, cube, (int) (drawn / 65536 % 4));
            cubes = next == null ? cubes : next;
            right += clashes(cubes) == 0 ? 1 : 0;
        }
        return what == 0 ? right : what == 1 ? clashes(cubes) : (int) drawn;
    }

    private static List<Block> copy(List<Block> blocks) {
        List<Block> copy = new ArrayList<>();
        for (Block block : blocks) {
            copy.add(block.copy());
        }
        return copy;
    }

    int image() {
        if (blocks.isEmpty()) {
            return STATE;
        }
        keptBlocks = copy(blocks);
        keptTurns = turns;
        return turns;
    }

    int restore() {
        if (keptBlocks == null) {
            return STATE;
        }
        blocks = copy(keptBlocks);
        turns = keptTurns;
        return turns;
    }

    int count(int what) {
        int good = 0;
        for (int wall = 0; wall < 4; wall++) {
            good += wall(wall, 0) == 1 ? 1 : 0;
        }
        Set<Character> colours = new HashSet<>();
        for (Block block : blocks) {
            for (char colour : block.sides.toCharArray()) {
                colours.add(colour);
            }
        }
        return switch (what) {
            case 0 -> blocks.size();
            case 1 -> clashes(lying());
            case 2 -> good;
            case 3 -> colours.size();
            case 4 -> turns;
            case 5 -> seenInAll();
            case 6 -> page.length();
            case 7 -> towers;
            case 8 -> repaints;
            default -> OUTSIDE;
        };
    }

    long digest() {
        List<Integer> numbers = new ArrayList<>();
        for (int cube = 0; cube < blocks.size(); cube++) {
            for (int what : new int[] {0, 1, 2, 3, 4, 10, 11, 12, 13, 14, 15}) {
                numbers.add(cube(cube, what));
            }
        }
        if (!blocks.isEmpty()) {
            for (int wall = 0; wall < 4; wall++) {
                numbers.add(wall(wall, 0));
                numbers.add(wall(wall, 1));
            }
            numbers.add(ways(0));
            numbers.add(ways(1));
            numbers.add(turning(0));
            numbers.add(turning(1));
            numbers.add(odds(0));
            numbers.add(odds(1));
        }
        for (char letter : page.toCharArray()) {
            numbers.add((int) letter);
        }
        for (int what = 0; what <= 8; what++) {
            numbers.add(count(what));
        }
        long h = 1319;
        for (int number : numbers) {
            h = 31 * h + number;
        }
        return h;
    }
}
