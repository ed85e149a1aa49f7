import com.sun.management.ThreadMXBean;
import java.lang.management.ManagementFactory;

/** All calls of a run share one room: the constructor makes the rows, and calls make nothing. */
public final class RoomTest {
  private static final Check CHECK = new Check();
  private static final ThreadMXBean BEAN = (ThreadMXBean) ManagementFactory.getThreadMXBean();
  private static final String TOWN = "lco;......../.+~^..../......../......../......../......../......../........;"
      + "p33n9;c43e9;d44s9;e34w9;b00n9;p77s9;";

  public static void main(String[] args) {
    // the first round brings in what the machine itself makes once
    for (int round = 0; round < 3; round++) {
      long before = bytes();
      NoonPaces x = new NoonPaces();
      long made = bytes() - before;
      for (int k = 0; k < TOWN.length(); k++) x.feed(TOWN.charAt(k));
      x.town();
      before = bytes();
      for (int k = 0; k < 8; k++) callAll(x, k);
      long called = bytes() - before;
      if (round < 2) continue;
      CHECK.due("a new object takes " + made + " bytes, below 50000", made < 50000 ? 1 : 0, 1);
      CHECK.due("calls take " + called + " bytes, below 2000", called < 2000 ? 1 : 0, 1);
    }
    CHECK.end();
  }

  private static long bytes() {
    return BEAN.getThreadAllocatedBytes(Thread.currentThread().getId());
  }

  private static void callAll(NoonPaces x, int k) {
    x.feed('l');
    x.town();
    x.as(k, 1);
    x.deed(k % 6, k % 4);
    x.look(k % 6, k % 4);
    x.build(8 + k, k % 2);
    x.noon();
    x.image(0);
    x.ends(0, 9);
    x.later(0, 20);
    x.barred();
    x.judge(0, 8 * k);
    x.sides(0, 8 * k);
    x.crime(0, 8 * k + 7, 1);
    x.order(0);
    x.guard(8 * k, 2);
    x.meet(0, 1, 2);
    x.law(3, 0);
    x.odds(8 * k, 5, 1);
    x.drawn(40, 7 + k, 0);
    x.sheet(0, k % 4, 24);
    x.item(0, k % 4, 2, 2);
    x.copy(0, 0, 0, 1, 20);
    x.film(k % 6, 1, 0, k % 4, 0);
    x.who(0, k % 4, 0, 1);
    x.due(k % 6, 0, k % 4, 0, 1);
    x.sorts(k % 6, 0, k % 4, 0, 1);
    x.drop(0);
    x.count(5);
    x.undo();
    x.restore(0);
  }
}
