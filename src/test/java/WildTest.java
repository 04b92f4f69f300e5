import java.util.Random;

/** No call throws, whatever its arguments are and whatever was called before. */
public final class WildTest {
  private static final int[] WILD = {Integer.MIN_VALUE, Integer.MIN_VALUE + 1, -1024, -33, -32, -2, -1, 0, 1, 2, 3, 4, 5, 6, 7, 8, 9, 10, 11, 15, 16, 20, 27, 28, 31, 32, 33,
    63, 64, 90, 99, 100, 255, 256, 399, 400, 999, 1000, 1023, 1024, 12345, 543210, 9543210, 1 << 30, Integer.MAX_VALUE - 1, Integer.MAX_VALUE,
    0x6e6f7420, 0x68617320, 0x313b2020, 0x28282828, 0x68656164, 0x733e313b, 0x61637274, -0x20};

  private final Random random;
  private final DivisionHall hall = new DivisionHall();

  private WildTest(int seed) { random = new Random(seed); }

  private int any() { return WILD[random.nextInt(WILD.length)]; }
  private int small() { return random.nextInt(3) == 0 ? any() : random.nextInt(12); }
  private boolean coin() { return random.nextBoolean(); }

  private void call(int kind) {
    switch (kind) {
      case 0: hall.member(); break;
      case 1: hall.shift(small(), small(), small(), small(), small()); break;
      case 2: hall.view(small(), small()); break;
      case 3: hall.of(any(), any()); break;
      case 4: hall.look(any()); break;
      case 5: hall.feed(any(), any(), any(), any(), any()); break;
      case 6: hall.end(any()); break;
      case 7: hall.rule(small()); break;
      case 8: hall.fault(any()); break;
      case 9: hall.carries(small(), any()); break;
      case 10: hall.leasts(small(), any()); break;
      case 11: hall.least(small(), small(), any()); break;
      case 12: hall.power(small(), any(), any()); break;
      case 13: hall.odd(small(), any()); break;
      case 14: hall.worth(small(), any(), any()); break;
      case 15: hall.trade(small(), any()); break;
      case 16: hall.days(small(), any(), any(), any(), any()); break;
      case 17: hall.wish(small(), any()); break;
      case 18: hall.support(any(), any()); break;
      case 19: hall.agenda(small(), any(), coin()); break;
      case 20: hall.through(small(), any(), small(), coin(), small()); break;
      case 21: hall.best(small(), any()); break;
      case 22: hall.line(any(), any()); break;
      case 23: hall.coalition(small(), any()); break;
      case 24: hall.value(any(), any(), any()); break;
      default: hall.deal(any(), any(), small(), coin(), any()); break;
    }
  }

  public static void main(String[] args) {
    for (int seed = 0; seed < 400; seed++) {
      WildTest t = new WildTest(seed);
      for (int n = 0; n < 512; n++) {
        int kind = t.random.nextInt(26);
        try {
          t.call(kind);
        } catch (RuntimeException e) {
          System.out.println("WildTest: seed " + seed + ", call " + n + " of kind " + kind + " threw " + e);
          System.exit(1);
        }
      }
    }
    System.out.println("WildTest: nothing was thrown");
  }
}
