import java.util.Random;
import java.util.TreeMap;
import java.util.concurrent.Callable;

/** All promises but 20: random runs of 512 calls, each answer against the model's. */
public final class ModelTest {
    private static final int RUNS = 2500;
    private static final int CALLS = 512;

    private final Random random;
    private final GoodsKeeper keeper = new GoodsKeeper();
    private final Model model = new Model();
    private final TreeMap<String, Integer> seen;
    private final int[] numbers = new int[12];
    private final int wanted;

    private ModelTest(int seed, TreeMap<String, Integer> seen) {
        this.random = new Random(seed);
        this.seen = seen;
        // Few singles meet often, many fill the keeper.
        this.wanted = seed % 5 == 0 ? 40 : 6;
    }

    public static void main(String[] args) {
        TreeMap<String, Integer> seen = new TreeMap<>();
        for (int seed = 0; seed < RUNS; seed++) {
            new ModelTest(seed, seen).run(seed);
        }
        // A run that never comes to an answer would not test it.
        String[] due = {"deed 0", "deed 1", "deed 3", "put true", "put false", "take true", "give true",
            "give false", "lend true", "lend false", "wear 100", "wear -1", "agree 0", "agree 1", "agree 2",
            "agree 3", "agree 6", "agree 7", "agree 8", "withdraw true", "withdraw false", "earns true",
            "earns false", "bars true", "bars false",
            "single UnsupportedOperationException", "rule UnsupportedOperationException",
            "player UnsupportedOperationException", "look NoSuchElementException"};
        for (String each : due) {
            if (!seen.containsKey(each)) {
                Check.note("no run came to: " + each);
            }
        }
        Check.end();
    }

    private void run(int seed) {
        int players = 2 + random.nextInt(4);
        for (int i = 0; i < players; i++) {
            compare(seed, i, "player", keeper::player, model.player());
        }
        for (int i = players; i < CALLS; i++) {
            step(seed, i);
        }
    }

    private void compare(int seed, int step, String call, Callable<Object> got, Object due) {
        Object answer;
        try {
            answer = got.call();
        } catch (Exception thrown) {
            answer = thrown.getClass().getSimpleName();
            Check.thrownByKeeper(call, thrown);
        }
        String name = call.split("\\(")[0];
        seen.merge(name + " " + due, 1, Integer::sum);
        if (!String.valueOf(answer).equals(String.valueOf(due))) {
            Check.note("seed " + seed + " step " + step + ": " + call + " answered " + answer + ", due is " + due);
        }
    }

    private Callable<Object> quiet(Runnable call) {
        return () -> {
            call.run();
            return null;
        };
    }

    /** Mostly a number below n, now and then one that is wrong. */
    private int some(int n) {
        int luck = random.nextInt(60);
        if (luck == 0) {
            return n;
        }
        if (luck == 1) {
            return -1;
        }
        return n == 0 ? 0 : random.nextInt(n);
    }

    private int players() {
        return (Integer) model.count(1);
    }

    private int rules() {
        return (Integer) model.count(2);
    }

    private int singles() {
        return (Integer) model.count(3);
    }

    private int offers() {
        return (Integer) model.count(6);
    }

    private void step(int seed, int i) {
        int choice = random.nextInt(100);
        if (choice < 22) {
            stepOfGoods(seed, i);
        } else if (choice < 62) {
            stepOfSingles(seed, i);
        } else if (choice < 80) {
            stepOfLooks(seed, i);
        } else if (choice < 92) {
            stepOfOffers(seed, i);
        } else {
            stepOfHunt(seed, i);
        }
    }

    private void stepOfGoods(int seed, int i) {
        int p = some(players());
        int r = some(rules());
        int kind = some(4);
        boolean flag = random.nextBoolean();
        int n = some(10);
        switch (random.nextInt(12)) {
            case 0:
                compare(seed, i, "player()", keeper::player, model.player());
                break;
            case 1:
                compare(seed, i, "rule(" + flag + ")", () -> keeper.rule(flag), model.rule(flag));
                break;
            case 2:
            case 3:
                compare(seed, i, "part(" + r + ", " + kind + ", " + flag + ", " + n + ")",
                        quiet(() -> keeper.part(r, kind, flag, n)), model.part(r, kind, flag, n));
                break;
            case 4:
                compare(seed, i, "has(" + p + ", " + kind + ")", () -> keeper.has(p, kind), model.has(p, kind));
                break;
            case 5:
                compare(seed, i, "sum(" + kind + ", " + flag + ")", () -> keeper.sum(kind, flag),
                        model.sum(kind, flag));
                break;
            default:
                stepOfDeed(seed, i, p, r);
        }
    }

    private void stepOfDeed(int seed, int i, int p, int r) {
        int latest = numbers[p + 1];
        int number = latest + (random.nextInt(4) == 0 ? random.nextInt(5) - 2 : 1);
        int times = random.nextInt(4) == 0 ? some(1001) : 1 + random.nextInt(9);
        Object due = model.deed(p, number, r, times);
        if (due instanceof Integer && (Integer) due != 3) {
            numbers[p + 1] = number;
        }
        compare(seed, i, "deed(" + p + ", " + number + ", " + r + ", " + times + ")",
                () -> keeper.deed(p, number, r, times), due);
    }

    private void stepOfSingles(int seed, int i) {
        int s = some(singles());
        int t = some(singles());
        int p = some(players());
        boolean flag = random.nextInt(8) == 0;
        int room = some(9);
        int day = (Integer) model.count(0) + random.nextInt(9) - 1;
        int wear = random.nextInt(6) == 0 ? some(101) : 1 + random.nextInt(6);
        int days = random.nextInt(20) == 0 ? some(1001) : random.nextInt(3);
        int choice = random.nextInt(singles() < wanted ? 30 : 22);
        if (choice < 6) {
            compare(seed, i, "put(" + s + ", " + t + ")", () -> keeper.put(s, t), model.put(s, t));
        } else if (choice < 8) {
            compare(seed, i, "take(" + s + ")", () -> keeper.take(s), model.take(s));
        } else if (choice < 12) {
            compare(seed, i, "give(" + s + ", " + p + ")", () -> keeper.give(s, p), model.give(s, p));
        } else if (choice < 16) {
            compare(seed, i, "lend(" + s + ", " + p + ", " + day + ")", () -> keeper.lend(s, p, day),
                    model.lend(s, p, day));
        } else if (choice < 18) {
            compare(seed, i, "wear(" + s + ", " + wear + ")", () -> keeper.wear(s, wear), model.wear(s, wear));
        } else if (choice < 20) {
            compare(seed, i, "days(" + days + ")", () -> keeper.days(days), model.days(days));
        } else {
            compare(seed, i, "single(" + p + ", " + flag + ", " + room + ")",
                    () -> keeper.single(p, flag, room), model.single(p, flag, room));
        }
    }

    private void stepOfLooks(int seed, int i) {
        int s = some(singles());
        int what = some(9);
        int k = random.nextInt(6) == 0 ? some(40) : some(6);
        boolean flag = random.nextBoolean();
        if (random.nextInt(3) == 0) {
            compare(seed, i, "line(" + s + ", " + k + ", " + flag + ")", () -> keeper.line(s, k, flag),
                    model.line(s, k, flag));
        } else if (random.nextInt(6) == 0) {
            compare(seed, i, "count(" + what + ")", () -> keeper.count(what), model.count(what));
        } else {
            compare(seed, i, "look(" + s + ", " + what + ")", () -> keeper.look(s, what), model.look(s, what));
        }
    }

    private void stepOfOffers(int seed, int i) {
        int o = random.nextBoolean() ? offers() - 1 : some(offers());
        int choice = random.nextInt(9);
        if (choice < 4) {
            compare(seed, i, "agree(" + o + ")", () -> keeper.agree(o), model.agree(o));
        } else if (choice == 4) {
            compare(seed, i, "withdraw(" + o + ")", () -> keeper.withdraw(o), model.withdraw(o));
        } else {
            int a = some(players());
            int b = some(players());
            int many = manyOffered();
            int kind = some(4);
            int single = random.nextBoolean() ? -1 : singleOf(a);
            int forMany = manyOffered();
            int forKind = some(4);
            int forSingle = random.nextBoolean() ? -1 : singleOf(b);
            compare(seed, i, "offer(..)",
                    () -> keeper.offer(a, b, many, kind, single, forMany, forKind, forSingle),
                    model.offer(a, b, many, kind, single, forMany, forKind, forSingle));
        }
    }

    private int manyOffered() {
        int luck = random.nextInt(30);
        return luck == 0 ? 1000001 : luck == 1 ? -1 : luck == 2 ? 1000000 : random.nextInt(3);
    }

    /** Mostly one that the player has, so that some trades are made. */
    private int singleOf(int player) {
        for (int tries = 0; tries < 8; tries++) {
            int single = some(singles());
            if (Integer.valueOf(player).equals(model.look(single, 0))) {
                return single;
            }
        }
        return some(singles());
    }

    private void stepOfHunt(int seed, int i) {
        int r = some(rules());
        int kind = some(4);
        int n = random.nextInt(3) == 0 ? some(1001) : 1 + random.nextInt(3);
        switch (random.nextInt(5)) {
            case 0:
                compare(seed, i, "times(" + r + ", " + n + ")", quiet(() -> keeper.times(r, n)), model.times(r, n));
                break;
            case 1:
                compare(seed, i, "weigh(" + kind + ", " + n + ")", quiet(() -> keeper.weigh(kind, n)),
                        model.weigh(kind, n));
                break;
            case 2:
                compare(seed, i, "earns()", keeper::earns, model.earns());
                break;
            case 3:
                compare(seed, i, "bars()", keeper::bars, model.bars());
                break;
            default:
                boolean gains = keeper.gains();
                if (model.earns().equals(true) && !gains || model.bars().equals(true) && gains) {
                    Check.note("seed " + seed + " step " + i + ": gains() answered " + gains);
                }
        }
    }
}
