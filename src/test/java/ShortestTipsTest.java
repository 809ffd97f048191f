import java.util.ArrayDeque;
import java.util.Arrays;
import java.util.HashMap;
import java.util.List;
import java.util.Map;
import java.util.stream.Collectors;

/** Promises 25 and 28 by search: every ring that some tips lead to can be reached, by no fewer tips than that. */
public final class ShortestTipsTest {
    private static final int MOST_TIPS = 5;
    private static final Due due = new Due();

    public static void main(String[] args) {
        for (int places = 3; places <= 6; places++) {
            Map<List<Integer>, Integer> found = search(places);
            for (Map.Entry<List<Integer>, Integer> entry : found.entrySet()) {
                int[] numbers = entry.getKey().stream().mapToInt(Integer::intValue).toArray();
                RingSeesaw x = new RingSeesaw();
                x.lay(places);
                x.keep();
                Rings.write(x, numbers);
                due.is("25: canReach(0) from " + Rings.row(numbers), true, x.canReach(0));
                due.is("28: fewestTips(0) from " + Rings.row(numbers), entry.getValue(), x.fewestTips(0));
            }
        }
        due.end();
    }

    private static Map<List<Integer>, Integer> search(int places) {
        List<Integer> start = Arrays.stream(new int[places]).boxed().collect(Collectors.toList());
        Map<List<Integer>, Integer> found = new HashMap<>();
        ArrayDeque<List<Integer>> open = new ArrayDeque<>();
        found.put(start, 0);
        open.add(start);
        while (!open.isEmpty()) {
            List<Integer> numbers = open.remove();
            int tips = found.get(numbers);
            for (int move = 0; move < 2 * places && tips < MOST_TIPS; move++) {
                List<Integer> next = tipped(numbers, move / 2, move % 2 == 0 ? 1 : -1);
                if (found.putIfAbsent(next, tips + 1) == null) {
                    open.add(next);
                }
            }
        }
        return found;
    }

    private static List<Integer> tipped(List<Integer> numbers, int place, int times) {
        int places = numbers.size();
        Integer[] after = numbers.toArray(new Integer[0]);
        after[place] -= 2 * times;
        after[(place + 1) % places] += times;
        after[(place + places - 1) % places] += times;
        return List.of(after);
    }
}
