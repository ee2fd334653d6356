import java.util.Random;

/** Runs of 512 calls, the same ones every time, on a TakeoffSheet and a PlainSheet: every answer must be the same. */
final class LongRunsTest {
    private static final int RUNS = 400;
    private static final int CALLS = 512;
    private static final String[] KINDS = {"begin", "wall", "wall", "wall", "opening", "limit", "area", "areaByStrips",
        "netArea", "rate", "price", "rateOf", "heading", "leaf", "items", "take", "vary", "quantity", "sum", "total",
        "dearest", "done", "retention", "worth", "due", "claim", "claimed", "floor", "floor"};

    private final Random random;
    private final TakeoffSheet sheet = new TakeoffSheet();
    private final PlainSheet plain = new PlainSheet();
    private int calls = 0;
    private int wrong = 0;

    private LongRunsTest(int run) {
        random = new Random(run);
    }

    public static void main(String[] args) {
        int wrong = 0;
        for (int run = 0; run < RUNS; run++) {
            LongRunsTest test = new LongRunsTest(run);
            while (test.calls < CALLS && test.wrong == 0) {
                test.step();
            }
            wrong += test.wrong;
        }
        System.out.println("LongRunsTest: " + RUNS + " runs, " + wrong + " not as due");
        if (wrong != 0) {
            System.exit(1);
        }
    }

    private interface Call {
        Object answer();
    }

    private static String answerOf(Call call) {
        try {
            Object answer = call.answer();
            return answer instanceof Boolean ? ((Boolean) answer ? "1" : "0") : answer.toString();
        } catch (RuntimeException e) {
            return e.getClass().getSimpleName();
        }
    }

    private void same(String call, String want, Call got) {
        calls++;
        String answer = answerOf(got);
        if (!answer.equals(want)) {
            wrong++;
            System.out.println("call " + calls + ", " + call + ": " + answer + ", due is: " + want);
        }
    }

    /** Mostly from a range, now and then just outside of it or far away. */
    private int number(int least, int most) {
        int dice = random.nextInt(60);
        if (dice == 0) {
            return least - 1;
        }
        if (dice == 1) {
            return most + 1;
        }
        if (dice == 2) {
            return random.nextInt();
        }
        return least + random.nextInt(most - least + 1);
    }

    private int item() {
        return number(0, Math.max(0, sheet.items() - 1));
    }

    private int parent() {
        return random.nextInt(4) == 0 ? TakeoffSheet.NONE : item();
    }

    private void begin(int x, int y) {
        same("begin " + x + " " + y, plain.begin(x, y), () -> {
            sheet.begin(x, y);
            return "0";
        });
    }

    private boolean wall(int direction, int steps) {
        String want = plain.wall(direction, steps);
        same("wall " + direction + " " + steps, want, () -> sheet.wall(direction, steps));
        return want.equals("0");
    }

    /** Goes about in short walls, and tries to close whenever the begin is straight ahead. */
    private void floor() {
        int beginX = number(0, 40);
        int beginY = number(0, 40);
        int x = beginX;
        int y = beginY;
        begin(x, y);
        for (int i = 0; i < 24; i++) {
            int direction = random.nextInt(4);
            int steps = 1 + random.nextInt(random.nextInt(5) == 0 ? 20 : 4);
            if (x == beginX && y != beginY || y == beginY && x != beginX) {
                direction = x == beginX ? (y < beginY ? 1 : 3) : (x < beginX ? 0 : 2);
                steps = Math.abs(x - beginX) + Math.abs(y - beginY);
            }
            if (wall(direction, steps)) {
                x += direction == 0 ? steps : direction == 2 ? -steps : 0;
                y += direction == 1 ? steps : direction == 3 ? -steps : 0;
            }
        }
        same("area", plain.area(), sheet::area);
        same("areaByStrips", plain.area(), sheet::areaByStrips);
    }

    private void rectangle() {
        int x = random.nextInt(20);
        int y = random.nextInt(20);
        int width = 1 + random.nextInt(20);
        int height = 1 + random.nextInt(20);
        begin(x, y);
        wall(1, height);
        wall(0, width);
        wall(3, height);
        wall(2, width);
    }

    private void step() {
        String kind = KINDS[random.nextInt(KINDS.length)];
        switch (kind) {
            case "floor" -> {
                if (random.nextBoolean()) {
                    floor();
                } else {
                    rectangle();
                }
            }
            case "begin" -> {
                if (random.nextInt(4) == 0) {
                    begin(number(0, 40), number(0, 40));
                }
            }
            case "wall" -> wall(number(0, 3), number(1, random.nextBoolean() ? 4 : 40));
            case "opening", "limit", "area", "areaByStrips", "netArea" -> drawingStep(kind);
            case "rate", "price", "rateOf", "heading", "leaf", "items" -> itemStep(kind);
            case "take", "vary", "quantity", "done" -> leafStep(kind);
            default -> billStep(kind);
        }
    }

    private void drawingStep(String kind) {
        int one = number(1, random.nextBoolean() ? 4 : 40);
        int two = number(1, random.nextBoolean() ? 4 : 40);
        int limit = number(0, random.nextBoolean() ? 20 : 1600);
        switch (kind) {
            case "opening" -> same("opening " + one + " " + two, plain.opening(one, two),
                    () -> sheet.opening(one, two));
            case "limit" -> same("limit " + limit, plain.limit(limit), () -> sheet.limit(limit));
            case "area" -> same(kind, plain.area(), sheet::area);
            case "areaByStrips" -> same(kind, plain.area(), sheet::areaByStrips);
            default -> same(kind, plain.netArea(), sheet::netArea);
        }
    }

    private void itemStep(String kind) {
        int most = random.nextBoolean() ? 1 : 50;
        int one = number(0, most);
        int two = number(0, most);
        int three = number(0, most);
        int price = number(0, 2);
        int cents = number(0, random.nextBoolean() ? 3 : 1000);
        int parent = parent();
        int rate = number(0, 3);
        switch (kind) {
            case "rate" -> same("rate " + one + " " + two + " " + three, plain.rate(one, two, three),
                    () -> sheet.rate(one, two, three));
            case "price" -> same("price " + price + " " + cents, plain.price(price, cents),
                    () -> sheet.price(price, cents));
            case "rateOf" -> same("rateOf " + one, plain.rateOf(one), () -> sheet.rateOf(one));
            case "heading" -> same("heading " + parent, plain.heading(parent), () -> sheet.heading(parent));
            case "leaf" -> same("leaf " + parent + " " + rate + " " + one, plain.leaf(parent, rate, one),
                    () -> sheet.leaf(parent, rate, one));
            default -> same(kind, plain.items(), sheet::items);
        }
    }

    private void leafStep(String kind) {
        int item = item();
        int height = number(1, 20);
        int reach = random.nextBoolean() ? 20 : 5000;
        int quantity = number(-reach, reach);
        int done = number(0, 100);
        switch (kind) {
            case "take" -> same("take " + item + " " + height, plain.take(item, height),
                    () -> sheet.take(item, height));
            case "vary" -> same("vary " + item + " " + quantity, plain.vary(item, quantity),
                    () -> sheet.vary(item, quantity));
            case "quantity" -> same("quantity " + item, plain.quantity(item), () -> sheet.quantity(item));
            default -> same("done " + item + " " + done, plain.done(item, done), () -> sheet.done(item, done));
        }
    }

    private void billStep(String kind) {
        int item = item();
        int retention = number(0, 20);
        switch (kind) {
            case "sum" -> same("sum " + item, plain.sum(item), () -> sheet.sum(item));
            case "total" -> same(kind, plain.total(), sheet::total);
            case "dearest" -> same("dearest " + item, plain.dearest(item), () -> sheet.dearest(item));
            case "retention" -> same("retention " + retention, plain.retention(retention),
                    () -> sheet.retention(retention));
            case "worth" -> same(kind, plain.worth(), sheet::worth);
            case "due" -> same(kind, plain.due(), sheet::due);
            case "claim" -> same(kind, plain.claim(), sheet::claim);
            default -> same(kind, plain.claimed(), sheet::claimed);
        }
    }
}
