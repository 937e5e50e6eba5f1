import java.util.ArrayList;
import java.util.Arrays;
import java.util.Comparator;
import java.util.List;
import java.util.TreeSet;
import java.util.regex.Matcher;
import java.util.regex.Pattern;

/**
 * The document once more, as plainly as can be and in another way than the class: blocks are objects, stacks
 * are lists of them, each state is a copy, searches try everything, and order texts are a regular expression.
 */
final class Model {
    private static final Pattern ORDERS = Pattern.compile(orders());

    private World world = new World();
    private final List<World> saved = new ArrayList<>();
    private final World[] slots = new World[2];
    private String buffer = "";

    private static final class Block {
        int nominal;
        int deviation;
        int wear;
        int warmth;
        int wrung;

        int error() {
            return deviation - wear;
        }

        int grade() {
            int size = Math.abs(error());
            return size > 500 ? 3 : size > 250 ? 2 : size > 100 ? 1 : 0;
        }

        void heat(int more) {
            warmth = Math.min(1000, warmth + more);
        }

        void cool() {
            warmth -= (warmth + 9) / 10;
        }

        int trueLength() {
            return nominal * 1000 + error() + nominal * warmth / 1000 * 115 / 1000;
        }

        Block copy() {
            Block copy = new Block();
            copy.nominal = nominal;
            copy.deviation = deviation;
            copy.wear = wear;
            copy.warmth = warmth;
            copy.wrung = wrung;
            return copy;
        }
    }

    private static final class World {
        List<Block> blocks = new ArrayList<>();
        List<List<Block>> stacks = List.of(new ArrayList<>(), new ArrayList<>(), new ArrayList<>());
        int[] settings = {10, 300, 3, 40};
        int minutes;
        int wrings;
        int takes;
        int refusals;

        World copy() {
            World copy = new World();
            blocks.forEach(block -> copy.blocks.add(block.copy()));
            for (int stack = 0; stack < 3; stack++) {
                for (Block block : stacks.get(stack)) {
                    copy.stacks.get(stack).add(copy.blocks.get(blocks.indexOf(block)));
                }
            }
            copy.settings = settings.clone();
            copy.minutes = minutes;
            copy.wrings = wrings;
            copy.takes = takes;
            copy.refusals = refusals;
            return copy;
        }

        int stackWith(Block block) {
            for (int stack = 0; stack < 3; stack++) {
                if (stacks.get(stack).contains(block)) {
                    return stack;
                }
            }
            return -1;
        }

        boolean free(Block block) {
            return stackWith(block) < 0;
        }

        int set(List<Block> some) {
            int set = 0;
            for (Block block : some) {
                set += 1 << blocks.indexOf(block);
            }
            return set;
        }

        List<Block> frees() {
            List<Block> frees = new ArrayList<>(blocks);
            frees.removeIf(block -> !free(block));
            return frees;
        }

        int refusal(int stack, Block block) {
            if (!free(block)) {
                return 1;
            }
            if (stacks.get(stack).size() == 6) {
                return 2;
            }
            return block.warmth > settings[1] ? 3 : block.grade() == 3 ? 4 : 0;
        }

        private void rub(List<Block> stack) {
            int size = stack.size();
            stack.get(size - 1).heat(settings[3]);
            if (size > 1) {
                stack.get(size - 1).wear += settings[2];
                stack.get(size - 2).wear += settings[2];
            }
        }

        int wring(int stack, Block block) {
            int reason = refusal(stack, block);
            if (reason != 0) {
                refusals++;
                return reason;
            }
            stacks.get(stack).add(block);
            rub(stacks.get(stack));
            block.wrung++;
            wrings++;
            return 0;
        }

        int takeOff(int stack) {
            rub(stacks.get(stack));
            takes++;
            return blocks.indexOf(stacks.get(stack).remove(stacks.get(stack).size() - 1));
        }

        void rest(int passing) {
            for (int i = 0; i < passing; i++) {
                blocks.forEach(Block::cool);
                minutes++;
            }
        }

        int trueLength(int stack) {
            int sum = 0;
            for (Block block : stacks.get(stack)) {
                sum += block.trueLength();
            }
            return sum + Math.max(0, stacks.get(stack).size() - 1) * settings[0];
        }

        int nominal(int stack) {
            return stacks.get(stack).stream().mapToInt(block -> block.nominal).sum();
        }

        /** Tries each set of free blocks; the sums of the sets come from sets with one block less. */
        int fewest(int length) {
            List<Block> frees = frees();
            int[] sums = new int[1 << frees.size()];
            int best = 0;
            for (int set = 1; set < sums.length; set++) {
                int highest = Integer.highestOneBit(set);
                sums[set] = sums[set - highest] + frees.get(Integer.numberOfTrailingZeros(highest)).nominal;
                boolean fits = sums[set] == length && Integer.bitCount(set) <= 6;
                if (fits && (best == 0 || Integer.bitCount(set) < Integer.bitCount(best))) {
                    best = set;
                }
            }
            int mask = 0;
            for (int i = 0; i < frees.size(); i++) {
                mask += (best >> i & 1) << blocks.indexOf(frees.get(i));
            }
            return mask;
        }
    }

    private static String orders() {
        String stack = "[012]";
        String block = "(1[0-9]|[0-9])";
        String sixty = "(60|[1-5][0-9]|[1-9])";
        String length = "(100000|[1-9][0-9][0-9][0-9][0-9]|[1-9][0-9][0-9][0-9]|[5-9][0-9][0-9])";
        String order = "(b" + length + "|w" + stack + "\\+" + block + "|u" + stack + "|h" + block + "," + sixty
            + "|r" + sixty + ")";
        return order + "(;" + order + ")*";
    }

    private static void legal(boolean holds) {
        if (!holds) {
            throw new IllegalArgumentException();
        }
    }

    private static void possible(boolean holds) {
        if (!holds) {
            throw new IllegalStateException();
        }
    }

    private static void there(int number, int many) {
        if (number < 0 || number >= many) {
            throw new IndexOutOfBoundsException();
        }
    }

    private static boolean in(int value, int least, int greatest) {
        return least <= value && value <= greatest;
    }

    private Block at(int block) {
        there(block, world.blocks.size());
        return world.blocks.get(block);
    }

    private void save() {
        saved.add(world.copy());
        if (saved.size() > 6) {
            saved.remove(0);
        }
    }

    int block(int nominal, int deviation) {
        legal(in(nominal, 500, 100000) && in(deviation, -900, 900));
        possible(world.blocks.size() < 20);
        save();
        return come(nominal, deviation);
    }

    private int come(int nominal, int deviation) {
        Block block = new Block();
        block.nominal = nominal;
        block.deviation = deviation;
        world.blocks.add(block);
        return world.blocks.size() - 1;
    }

    int discard(int number) {
        Block block = at(number);
        possible(world.free(block));
        save();
        world.blocks.remove(block);
        return world.blocks.size();
    }

    int calibrate(int number) {
        Block block = at(number);
        possible(world.free(block));
        save();
        block.deviation = Math.max(-900, block.error());
        block.wear = 0;
        return block.grade();
    }

    int hold(int number, int seconds) {
        Block block = at(number);
        legal(in(seconds, 1, 60));
        save();
        for (int i = 0; i < seconds; i++) {
            block.heat(5);
        }
        return block.warmth;
    }

    int rest(int minutes) {
        legal(in(minutes, 1, 60));
        save();
        world.rest(minutes);
        return world.blocks.stream().mapToInt(block -> block.warmth).max().orElse(0);
    }

    int set(int setting, int value) {
        there(setting, 4);
        legal(in(value, 0, new int[] {60, 1000, 20, 200}[setting]));
        save();
        int previous = world.settings[setting];
        world.settings[setting] = value;
        return previous;
    }

    int wring(int stack, int number) {
        there(stack, 3);
        Block block = at(number);
        save();
        return world.wring(stack, block);
    }

    int takeOff(int stack) {
        there(stack, 3);
        possible(!world.stacks.get(stack).isEmpty());
        save();
        return world.takeOff(stack);
    }

    int make(int stack, int length) {
        there(stack, 3);
        legal(in(length, 500, 600000));
        possible(world.stacks.get(stack).isEmpty());
        save();
        int set = world.fewest(length);
        int wrung = 0;
        for (int block = 0; block < 20; block++) {
            if ((set & 1 << block) != 0) {
                if (world.wring(stack, at(block)) != 0) {
                    return wrung;
                }
                wrung++;
            }
        }
        return set == 0 ? -1 : wrung;
    }

    int append(int code) {
        legal(in(code, 33, 126));
        possible(buffer.length() < 60);
        buffer += (char) code;
        return buffer.length();
    }

    int clearBuffer() {
        int length = buffer.length();
        buffer = "";
        return length;
    }

    int firstError() {
        for (int length = 1; length <= buffer.length(); length++) {
            Matcher matcher = ORDERS.matcher(buffer.substring(0, length));
            if (!matcher.matches() && !matcher.hitEnd()) {
                return length - 1;
            }
        }
        return buffer.length();
    }

    int execute() {
        legal(ORDERS.matcher(buffer).matches());
        save();
        int executed = 0;
        for (String order : buffer.split(";")) {
            if (!carryOut(order)) {
                break;
            }
            executed++;
        }
        buffer = "";
        return executed;
    }

    private boolean carryOut(String order) {
        String[] parts = order.substring(1).split("[+,]");
        int first = Integer.parseInt(parts[0]);
        int second = parts.length > 1 ? Integer.parseInt(parts[1]) : 0;
        int many = world.blocks.size();
        switch (order.charAt(0)) {
            case 'b':
                return many < 20 && come(first, 0) >= 0;
            case 'w':
                return second < many && world.wring(first, at(second)) == 0;
            case 'u':
                return !world.stacks.get(first).isEmpty() && world.takeOff(first) >= 0;
            case 'h':
                if (first < many) {
                    at(first).heat(5 * second);
                }
                return first < many;
            default:
                world.rest(first);
                return true;
        }
    }

    int undo() {
        possible(!saved.isEmpty());
        world = saved.remove(saved.size() - 1);
        return saved.size();
    }

    int keep(int slot) {
        legal(in(slot, 0, 1));
        slots[slot] = world.copy();
        return world.blocks.size();
    }

    int goBack(int slot) {
        legal(in(slot, 0, 1));
        possible(slots[slot] != null);
        save();
        world = slots[slot].copy();
        return world.blocks.size();
    }

    int blockOf(int number, int what) {
        Block block = at(number);
        legal(in(what, 0, 8));
        int stack = world.stackWith(block);
        int place = stack < 0 ? -1 : world.stacks.get(stack).indexOf(block);
        return new int[] {block.nominal, block.error() + 10000, block.wear, block.warmth, block.grade(),
            block.trueLength(), stack, place, block.wrung}[what];
    }

    int stackOf(int stack, int what) {
        there(stack, 3);
        legal(in(what, 0, 6));
        List<Block> blocks = world.stacks.get(stack);
        int top = blocks.isEmpty() ? -1 : world.blocks.indexOf(blocks.get(blocks.size() - 1));
        int grade = blocks.stream().mapToInt(Block::grade).max().orElse(-1);
        int length = world.trueLength(stack);
        int nominal = world.nominal(stack);
        return new int[] {blocks.size(), nominal, length, world.set(blocks), top, grade,
            Math.abs(length - 1000 * nominal)}[what];
    }

    int ranked(int how, int rank) {
        legal(in(how, 0, 2) && rank >= 0);
        List<Block> order = new ArrayList<>(world.blocks);
        List<Comparator<Block>> orders = List.of(
            Comparator.comparingInt(block -> block.nominal),
            Comparator.comparingInt(block -> -block.warmth),
            Comparator.comparingInt(block -> -Math.abs(block.error())));
        order.sort(orders.get(how));
        return rank < order.size() ? world.blocks.indexOf(order.get(rank)) : -1;
    }

    int lengths(int rank) {
        legal(rank >= -1);
        TreeSet<Integer> lengths = new TreeSet<>();
        world.frees().forEach(block -> lengths.add(block.nominal));
        if (rank == -1) {
            return lengths.size();
        }
        return rank < lengths.size() ? new ArrayList<>(lengths).get(rank) : -1;
    }

    int count(int what) {
        legal(in(what, 0, 9));
        List<Block> bad = new ArrayList<>(world.blocks);
        bad.removeIf(block -> block.grade() < 3);
        int wear = world.blocks.stream().mapToInt(block -> block.wear).sum();
        return new int[] {world.blocks.size(), world.set(world.frees()), world.minutes, world.wrings, world.takes,
            wear, world.refusals, world.set(bad), saved.size(), buffer.length()}[what];
    }

    int setting(int setting) {
        there(setting, 4);
        return world.settings[setting];
    }

    int refusal(int stack, int block) {
        there(stack, 3);
        return world.refusal(stack, at(block));
    }

    int fewest(int length, int what) {
        legal(in(length, 500, 600000) && in(what, 0, 1));
        int set = world.fewest(length);
        return set == 0 ? -1 : new int[] {Integer.bitCount(set), set}[what];
    }

    int oldWay(int length, int what) {
        legal(in(length, 500, 600000) && in(what, 0, 2));
        List<Block> taken = new ArrayList<>();
        int rest = length;
        while (rest != 0) {
            String zeros = Integer.toString(rest).replaceFirst("^.*[1-9]", "");
            int place = Integer.parseInt("1" + zeros);
            Block next = null;
            for (Block block : world.frees()) {
                boolean fits = !taken.contains(block) && block.nominal <= rest
                    && (rest - block.nominal) % (10 * place) == 0;
                next = fits && (next == null || block.nominal > next.nominal) ? block : next;
            }
            if (next == null || taken.size() == 6) {
                return new int[] {-1, -1, rest}[what];
            }
            taken.add(next);
            rest -= next.nominal;
        }
        return new int[] {taken.size(), world.set(taken), 0}[what];
    }

    int nearest(int length) {
        legal(in(length, 500, 600000));
        List<Block> frees = world.frees();
        TreeSet<Integer> sums = new TreeSet<>();
        for (Block one : frees) {
            sums.add(one.nominal);
            frees.stream().filter(other -> other != one).forEach(other -> sums.add(one.nominal + other.nominal));
        }
        Integer below = sums.floor(length);
        Integer above = sums.ceiling(length);
        if (below == null || above == null) {
            return below != null ? below : above != null ? above : -1;
        }
        return length - below <= above - length ? below : above;
    }

    int coolIn(int number) {
        Block copy = at(number).copy();
        int minutes = 0;
        while (copy.warmth > world.settings[1]) {
            copy.cool();
            minutes++;
        }
        return minutes;
    }

    int lengthIn(int stack, int minutes) {
        there(stack, 3);
        legal(in(minutes, 0, 600));
        World later = world.copy();
        later.rest(minutes);
        return later.trueLength(stack);
    }

    double meanError() {
        int[] sizes = world.blocks.stream().mapToInt(block -> Math.abs(block.error())).toArray();
        return sizes.length == 0 ? 0.0 : (double) Arrays.stream(sizes).sum() / (double) sizes.length;
    }
}
