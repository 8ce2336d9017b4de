import java.util.ArrayDeque;
import java.util.ArrayList;
import java.util.HashSet;
import java.util.List;
import java.util.Set;

/** A group whose permutations are all listed. */
final class NaiveGroup {
    final List<Long> generators = new ArrayList<>();
    Set<Long> members = Set.of(0x76543210L);

    static int imageOf(long permutation, int point) {
        return (int) (permutation >> 4 * point) & 15;
    }

    static boolean isPermutation(long number) {
        Set<Integer> images = new HashSet<>();
        for (int point = 0; point < 8; point++) {
            images.add(imageOf(number, point));
        }
        return images.equals(Set.of(0, 1, 2, 3, 4, 5, 6, 7)) && number >= 0 && number < 1L << 32;
    }

    void add(long permutation) {
        generators.add(permutation);
        if (!members.contains(permutation)) {
            listMembers();
        }
    }

    void clear() {
        generators.clear();
        listMembers();
    }

    private void listMembers() {
        Set<Long> found = new HashSet<>();
        ArrayDeque<Long> open = new ArrayDeque<>();
        found.add(0x76543210L);
        open.add(0x76543210L);
        while (!open.isEmpty()) {
            long one = open.remove();
            for (long generator : generators) {
                long next = 0;
                for (int point = 0; point < 8; point++) {
                    next |= (long) imageOf(generator, imageOf(one, point)) << 4 * point;
                }
                if (found.add(next)) {
                    open.add(next);
                }
            }
        }
        members = found;
    }

    int moves(int point) {
        int mask = 0;
        for (long member : members) {
            mask |= 1 << imageOf(member, point);
        }
        return mask;
    }

    int fixing(int points) {
        int count = 0;
        for (long member : members) {
            boolean fixes = true;
            for (int point = 0; point < 8; point++) {
                fixes &= (points >> point & 1) == 0 || imageOf(member, point) == point;
            }
            count += fixes ? 1 : 0;
        }
        return count;
    }
}
