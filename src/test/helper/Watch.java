/** Ends a test that does not end by itself: no call may fail to end. */
final class Watch {
  private static final int SECONDS = 600;

  private Watch() {
  }

  static void start() {
    Thread watch = new Thread(Watch::endLate);
    watch.setDaemon(true);
    watch.start();
  }

  private static void endLate() {
    try {
      Thread.sleep(SECONDS * 1000L);
    } catch (InterruptedException e) {
      return;
    }
    System.out.println("not at an end behind " + SECONDS + " seconds");
    Runtime.getRuntime().halt(1);
  }
}
