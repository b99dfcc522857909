import java.util.Arrays;

/**
 * Nights the plain way, ringer by ringer: who has rung which bells of the night is a set of bells (three bits an hour),
 * each ringer adds one of his lawful nights to it. ModelTest also counts every rota of small parishes one by one.
 */
final class ModelNights {
    private static final int TURN = 1_000_000;
    private static final int NOT = Integer.MAX_VALUE / 2;

    private final Model m;
    private final int wanted;

    ModelNights(Model m) {
        this.m = m;
        this.wanted = m.wants.stream().mapToInt(Integer::intValue).sum();
    }

    /** Price of a turn for a night of a ringer who rings so often in it. */
    private interface Price {
        int of(int r, int turns);
    }

    /** least[r][taken]: the least price of what ringers r and later add to the bells that are taken. */
    private int[][] least(int ringers, int times, Price price) {
        int n = m.ringers.size();
        int[][] least = new int[n + 1][1 << 12];
        for (int r = n - 1; r >= 0; r--) {
            Arrays.fill(least[r], NOT);
            int[] nights = (ringers >> r & 1) != 0 ? m.nightsOf(r, times) : new int[] {0};
            for (int taken = 0; taken < 1 << 12; taken++) {
                for (int night : nights) {
                    if ((night & taken) == 0) {
                        int turns = Integer.bitCount(night);
                        int sum = least[r + 1][taken | night] - turns * TURN + price.of(r, turns);
                        least[r][taken] = Math.min(least[r][taken], sum);
                    }
                }
            }
        }
        return least;
    }

    private int everyone() {
        return (1 << m.ringers.size()) - 1;
    }

    private static int turnsOf(int price) {
        return (int) Math.ceil(-price / (double) TURN);
    }

    private static int restOf(int price) {
        return price + turnsOf(price) * TURN;
    }

    private int mostTurns(int ringers, int times) {
        return turnsOf(least(ringers, times, (r, turns) -> 0)[0][0]);
    }

    private int walkPrice(int r, int turns) {
        return turns * 2 * Math.abs(m.ringers.get(r)[0] - m.tower);
    }

    int fewestShort() {
        return wanted - mostTurns(everyone(), m.times);
    }

    int leastWalk() {
        return restOf(least(everyone(), m.times, this::walkPrice)[0][0]);
    }

    int fewestRingers() {
        return restOf(least(everyone(), m.times, (r, turns) -> turns > 0 ? 1 : 0)[0][0]);
    }

    int mostEven() {
        int even = 0;
        while (mostTurns(everyone(), even) < mostTurns(everyone(), m.times)) {
            even++;
        }
        return even;
    }

    int needed() {
        int most = mostTurns(everyone(), m.times);
        int needed = 0;
        for (int r = 0; r < m.ringers.size(); r++) {
            if (mostTurns(everyone() & ~(1 << r), m.times) < most) {
                needed |= 1 << r;
            }
        }
        return needed;
    }

    /** For each ringer and hour the bell, or NONE. */
    int[][] best() {
        int[][] least = least(everyone(), m.times, this::walkPrice);
        int[][] best = new int[m.ringers.size()][m.wants.size()];
        int taken = 0;
        for (int r = 0; r < m.ringers.size(); r++) {
            int[] first = null;
            int firstNight = 0;
            for (int night : m.nightsOf(r, m.times)) {
                if ((night & taken) != 0) {
                    continue;
                }
                int turns = Integer.bitCount(night);
                int sum = least[r + 1][taken | night] - turns * TURN + walkPrice(r, turns);
                int[] bells = bellsOf(night);
                if (sum == least[r][taken] && (first == null || Arrays.compare(bells, first) < 0)) {
                    first = bells;
                    firstNight = night;
                }
            }
            best[r] = first;
            taken |= firstNight;
        }
        return best;
    }

    private int[] bellsOf(int night) {
        int[] bells = new int[m.wants.size()];
        for (int h = 0; h < bells.length; h++) {
            int bit = night >> 3 * h & 7;
            bells[h] = bit == 0 ? HourRingers.NONE : Integer.numberOfTrailingZeros(bit);
        }
        return bells;
    }
}
