/** Counts the answers that are not as due, and ends a test. */
final class Due {
  /** Which test runs, so that a line that it prints is found by its name. */
  static String test = "";
  private static int wrong = 0;

  private Due() {}

  static void due(String call, long got, long want) {
    if (got != want) {
      wrong++;
      System.out.println(test + call + " answered " + got + ", due is " + want);
    }
  }

  static void holds(String what, boolean so) {
    if (!so) {
      wrong++;
      System.out.println(test + "does not hold: " + what);
    }
  }

  static void end() {
    System.out.println(wrong == 0 ? "all is as due" : wrong + " things are not as due");
    if (wrong != 0) {
      System.exit(1);
    }
  }

  /** Puts a text into a new row of a sheet and makes an office by it. */
  static int office(ProphetCover x, int sheet, int lane, String text) {
    x.sheet(sheet, lane, text.length());
    for (int i = 0; i < text.length(); i++) {
      x.put(sheet, i, text.charAt(i));
    }
    return x.office(sheet, lane, 0, text.length());
  }

  static ProphetCover officeBy(String text) {
    ProphetCover x = new ProphetCover();
    holds("a text is taken: " + text, office(x, 3, 0, text) > 0);
    return x;
  }

  /** Gives a sheet a new row of such numbers. */
  static void row(ProphetCover x, int sheet, int lane, int... numbers) {
    x.sheet(sheet, lane, numbers.length);
    for (int i = 0; i < numbers.length; i++) {
      x.put(sheet, i, numbers[i]);
    }
  }
}
