import java.math.BigInteger;

/** Each sentence of the promises 1 to 25 that names a boundary case, by a test of its own. */
public final class CallEdgesTest {
  private static final String SHEETS = "bark a raw 500 fibre 1;" + Check.PAIR;
  private static final String FIGURES = SHEETS + "spirit s folds 0 cuts 9 price 5;spirit t folds 0 cuts 9 price 3;cut s from a;";
  private static final int LEAST = Integer.MIN_VALUE;
  private static final int MOST = Integer.MAX_VALUE;

  public static void main(String[] args) {
    newObject();
    feedTwentyBytes();
    feedAtMost2000();
    trimRange();
    trimKeepsTheFirst();
    teachInThePlaceOfAll();
    teachAgainAndAgain();
    teachErrorStays();
    errorAtOfTheLatest();
    countWhat();
    barkRange();
    beaterRange();
    beaterHours();
    beaterBoard();
    spiritRange();
    sheetRange();
    figureRange();
    forceRange();
    forceOfNobody();
    setWeatherRange();
    setTouristsRange();
    tuneRange();
    burnRange();
    bringAtMost500();
    bringRange();
    passRange();
    passOnlyWhatComesIn();
    untilRange();
    until0();
    untilAtMost120();
    foreseeRange();
    foreseeMouldyBy5();
    adviseRange();
    adviseGreatest();
    advise48Hours();
    bestRange();
    bestLeast();
    bestWithinHours();
    spareRange();
    spareNobody();
    spareSmallest();
    spareWithinHours();
    mean0();
    meanOfAll();
    digestWrapsAround();
    firstExceptionIsThrown();
    call512();
    Check.finish();
  }

  private interface OfInt {
    int call(int number);
  }

  /** Refused on both sides of the range, next to it and far away. */
  private static void refusedIndex(String what, BarkMakers x, int least, int most, OfInt call) {
    for (int number : new int[] {LEAST, least - 1, most + 1, MOST}) {
      Check.refusesIndex(what + " " + number, x, () -> call.call(number));
    }
  }

  private static void refusedArgument(String what, BarkMakers x, int least, int most, OfInt call) {
    for (int number : new int[] {LEAST, least - 1, most + 1, MOST}) {
      Check.refusesArgument(what + " " + number, x, () -> call.call(number));
    }
  }

  /** "Creates a mountain without bark and makers, in the hour 0." */
  private static void newObject() {
    BarkMakers x = new BarkMakers();
    int[] due = {0, 2, 3, 0, 0, 0, 0, 0, 0, 0, 0, 0, 0, 0, 0};
    for (int what = 0; what < due.length; what++) {
      Check.same("new, count " + what, x.count(what), due[what]);
    }
    refusedIndex("new, bark", x, 0, -1, bark -> x.bark(bark, 0));
    refusedIndex("new, beater", x, 0, -1, beater -> x.beater(beater, 0));
    refusedIndex("new, spirit", x, 0, -1, spirit -> x.spirit(spirit, 0));
    refusedIndex("new, sheet", x, 0, -1, sheet -> x.sheet(sheet, 0));
    refusedIndex("new, figure", x, 0, -1, figure -> x.figure(figure, 0));
    refusedIndex("new, force", x, 0, -1, bark -> x.force(bark));
    refusedIndex("new, tune", x, 0, -1, beater -> x.tune(beater, 1));
    refusedIndex("new, burn", x, 0, -1, sheet -> x.burn(sheet));
    refusedIndex("new, bring", x, 0, -1, bark -> x.bring(bark, 1));
    refusedIndex("new, until", x, 0, -1, spirit -> x.until(spirit));
    refusedIndex("new, advise", x, 0, -1, beater -> x.advise(beater));
    Check.same("new, pass", x.pass(96), 0);
    Check.same("new, foresee", x.foresee(96, 1), 0);
  }

  // ---- the language

  /** "Appends twenty bytes to the tape: the four bytes of each number, the highest one first." */
  private static void feedTwentyBytes() {
    String list = "bark a raw 123 fibre";
    int[] bytes = new int[5];
    for (int at = 0; at < 20; at++) {
      bytes[at / 4] = bytes[at / 4] << 8 | list.charAt(at);
    }
    BarkMakers x = new BarkMakers();
    Check.same("bytes behind one feed", x.feed(bytes[0], bytes[1], bytes[2], bytes[3], bytes[4]), 20);
    Check.same("bytes behind two", x.feed(0x20373b20, 0x20202020, 0x20202020, 0x20202020, 0x20202020), 40);
    Check.same("teach", x.teach(), 0);
    Check.same("raw", x.bark(0, 0), 123);
    Check.same("fibre", x.bark(0, 3), 7);
    for (int at = 0; at < 20; at++) {
      int[] one = {0x20202020, 0x20202020, 0x20202020, 0x20202020, 0x20202020};
      one[at / 4] |= 0xff << 24 - at % 4 * 8;
      x.feed(one[0], one[1], one[2], one[3], one[4]);
      Check.same("a byte of 255", x.teach(), 1);
      Check.same("its place", x.errorAt(), at);
    }
  }

  /** "Throws IllegalStateException if there would be more than 2000" */
  private static void feedAtMost2000() {
    for (int bytes = 1979; bytes <= 2000; bytes++) {
      BarkMakers x = new BarkMakers();
      Check.write(x, "bark a raw 9 fibre 1;" + " ".repeat(bytes - 21));
      Check.same("bytes ahead of it", x.count(14), bytes);
      if (bytes + 20 <= 2000) {
        Check.same("feed behind " + bytes, x.feed(0x20202020, 0x20202020, 0x20202020, 0x20202020, 0x20202020), bytes + 20);
      } else {
        Check.refuses("feed behind " + bytes, x, IllegalStateException.class, () -> x.feed(-1, -1, -1, -1, -1));
        Check.same("bytes behind it", x.count(14), bytes);
      }
      Check.same("what was there is read", x.teach(), 0);
      Check.same("as it was", x.bark(0, 0), 9);
    }
  }

  /** "Throws IllegalArgumentException if n is not 0 to the number of bytes of the tape" */
  private static void trimRange() {
    for (int bytes = 0; bytes <= 20; bytes++) {
      BarkMakers x = new BarkMakers();
      x.feed(0x20202020, 0x20202020, 0x20202020, 0x20202020, 0x20202020);
      Check.same("trim to " + bytes, x.trim(bytes), bytes);
      refusedArgument("trim behind " + bytes, x, 0, bytes, n -> x.trim(n));
      Check.same("trim to all of " + bytes, x.trim(bytes), bytes);
      Check.same("all of " + bytes + " are there", x.count(14), bytes);
      Check.same("trim to none of " + bytes, x.trim(0), 0);
      Check.same("none is there", x.count(14), 0);
    }
    BarkMakers full = new BarkMakers();
    Check.write(full, " ".repeat(2000));
    refusedArgument("trim of a full tape", full, 0, 2000, n -> full.trim(n));
    Check.same("trim a full tape to all", full.trim(2000), 2000);
  }

  /** "Shortens the tape to its first bytes." */
  private static void trimKeepsTheFirst() {
    BarkMakers x = new BarkMakers();
    Check.write(x, "bark a raw 9 fibre 1;?");
    Check.refusesArgument("trim to more", x, () -> x.trim(23));
    Check.same("trim the ? away", x.trim(21), 21);
    Check.same("teach the rest", x.teach(), 0);
    Check.same("of which this is told", x.bark(0, 0), 9);
    Check.write(x, "bark a raw 9 fibre 1;????????????????????");
    x.trim(11);
    Check.write(x, "77 fibre 2;");
    Check.same("feed goes on behind what is kept", x.teach(), 0);
    Check.same("raw", x.bark(0, 0), 77);
  }

  /** "Reads the tape as a list, in the place of all that was told before ..." */
  private static void teachInThePlaceOfAll() {
    BarkMakers x = Check.passed(FIGURES, 20);
    x.setWeather(1);
    x.setTourists(9);
    for (int what : new int[] {7, 9, 10, 11, 12, 13}) {
      Check.same("there is some of " + what, x.count(what) > 0 ? 1 : 0, 1);
    }
    Check.write(x, "bark k raw 3 fibre 2;spirit t folds 1 cuts 2 price 3;");
    Check.same("teach", x.teach(), 0);
    int[] due = {20, 1, 9, 1, 0, 1, 0, 0, 0, 0, 0, 0, 0, 0, 0};
    for (int what = 0; what < due.length; what++) {
      Check.same("taught again, count " + what, x.count(what), due[what]);
    }
    refusedIndex("bark", x, 0, 0, bark -> x.bark(bark, 0));
    refusedIndex("beater", x, 0, -1, beater -> x.beater(beater, 0));
    refusedIndex("spirit", x, 0, 0, spirit -> x.spirit(spirit, 0));
    Check.same("sold of a spirit", x.spirit(0, 4), 0);
    Check.same("pulp", x.bark(0, 2), 0);
    Check.same("soaked", x.bark(0, 1), 0);
    for (int n = 0; n < 3; n++) {
      Check.write(x, FIGURES.replace("every 1", "every " + (n + 2)));
      Check.same("teach the same names", x.teach(), 0);
      Check.same("beaters", x.count(4), 2);
      Check.same("every of the first one", x.beater(0, 1), n + 2);
      Check.same("every of the last one", x.beater(1, 1), n + 2);
      Check.same("spirits", x.count(5), 2);
      Check.same("orders", x.count(6), 4);
      Check.same("raw", x.bark(0, 0), 500);
      x.tune(1, 1);
      x.pass(1);
    }
    Check.same("teach nothing", x.teach(), 0);
    for (int what = 3; what <= 14; what++) {
      Check.same("taught nothing, count " + what, x.count(what), 0);
    }
    Check.same("the hour stays", x.count(0), 23);
  }

  /** A list of all the tokens that it may have, in the place of one like it; nothing piles up. */
  private static void teachAgainAndAgain() {
    BarkMakers x = new BarkMakers();
    for (int n = 1; n <= 12; n++) {
      Check.write(x, "bark a raw 99 fibre 1;soak a by " + n + "+0".repeat(194) + ";");
      Check.same("teach a long list, time " + n, x.teach(), 0);
      x.pass(1);
      Check.same("soaked by the sum of time " + n, x.bark(0, 1), n);
      Check.write(x, "bark a raw 99 fibre 1;soak a by 1" + "+1".repeat(195));
      Check.same("teach a list that is too long", x.teach(), 1);
    }
  }

  /** "If it has an error, all stays (but the tape is empty)." "Returns 0, or the error, 1 to 5." */
  private static void teachErrorStays() {
    String head = "bark q raw 1 fibre 9;beater q hand 2 every 5;spirit q folds 4 cuts 3 price 2;soak q by 1;";
    String[] lists = {"?", "bark q raw 1 fibre 9;", "soak z by 1;", "soak q by 1;".repeat(24), "bark r raw 501 fibre 1;"};
    int[] places = {0, 5, 5, 23 * 12, 11};
    for (int error = 1; error <= 5; error++) {
      BarkMakers x = Check.passed(FIGURES, 20);
      BarkMakers same = Check.passed(FIGURES, 20);
      x.tune(0, 2);
      same.tune(0, 2);
      Check.write(x, head + lists[error - 1]);
      Check.same("error", x.teach(), error);
      Check.same("its place", x.errorAt(), head.length() + places[error - 1]);
      Check.same("all stays by error " + error, x.digest(), same.digest());
      x.pass(30);
      same.pass(30);
      Check.same("also the orders by error " + error, x.digest(), same.digest());
    }
  }

  /** "Returns the position of the error of the latest teach(); -1 if it had none, or there was none." */
  private static void errorAtOfTheLatest() {
    BarkMakers x = new BarkMakers();
    Check.same("there was none", x.errorAt(), -1);
    Check.write(x, "?");
    Check.same("not read yet", x.errorAt(), -1);
    x.teach();
    Check.same("at 0", x.errorAt(), 0);
    Check.write(x, "bark a raw 9 fibre 1;");
    Check.same("still the latest one", x.errorAt(), 0);
    x.teach();
    Check.same("it had none", x.errorAt(), -1);
    Check.write(x, "bark a raw 9 fibre 0;");
    x.teach();
    x.pass(1);
    x.trim(0);
    Check.same("hours change nothing", x.errorAt(), 19);
    x.teach();
    Check.same("an empty tape has none", x.errorAt(), -1);
  }

  /** "Throws IndexOutOfBoundsException if what is not 0 to 14" */
  private static void countWhat() {
    BarkMakers x = Check.passed(FIGURES, 21);
    x.feed(0, 0, 0, 0, 0);
    x.setWeather(5);
    x.setTourists(20);
    // sheets of the hours 0 to 20; cut in the hours 3 to 20, three each sold in the hours 7 and 15
    int[] due = {21, 5, 20, 1, 2, 2, 6 - 2, 3, 0, 12, 2 * 3 * (5 + 7 / 4), 21, 18, 6, 20};
    for (int what = 0; what < due.length; what++) {
      Check.same("count " + what, x.count(what), due[what]);
    }
    refusedIndex("count", x, 0, 14, what -> x.count(what));
  }

  // ---- what there is

  /** "if there is no such bark, or what is not 0 to 4" */
  private static void barkRange() {
    BarkMakers five = Check.taught("bark a raw 0 fibre 1;bark b raw 1 fibre 2;bark c raw 2 fibre 3;bark d raw 3 fibre 4;bark e raw 500 fibre 9;");
    int[] raw = {0, 1, 2, 3, 500};
    int[] fibre = {1, 2, 3, 4, 9};
    for (int bark = 0; bark < 5; bark++) {
      Check.same("raw of " + bark, five.bark(bark, 0), raw[bark]);
      Check.same("fibre of " + bark, five.bark(bark, 3), fibre[bark]);
      Check.same("sheets of " + bark, five.bark(bark, 4), 0);
    }
    refusedIndex("bark", five, 0, 4, bark -> five.bark(bark, 0));
    refusedIndex("bark's what", five, 0, 4, what -> five.bark(4, what));
    refusedIndex("bark and what", five, 0, 4, both -> five.bark(both, both));
    BarkMakers one = Check.taught("bark a raw 0 fibre 1;");
    refusedIndex("bark of one", one, 0, 0, bark -> one.bark(bark, 4));
  }

  /** "if there is no such beater, or what is not 0 to 3" */
  private static void beaterRange() {
    StringBuilder list = new StringBuilder();
    for (int n = 1; n <= 6; n++) {
      list.append("beater b").append(n).append(" hand ").append(n).append(" every ").append(7 - n).append(';');
      BarkMakers x = Check.taught(list.toString());
      Check.same("hand of the last of " + n, x.beater(n - 1, 0), n);
      Check.same("every of the last of " + n, x.beater(n - 1, 1), 7 - n);
      refusedIndex("beater of " + n, x, 0, n - 1, beater -> x.beater(beater, 3));
      refusedIndex("beater's what of " + n, x, 0, 3, what -> x.beater(0, what));
    }
  }

  /** "2 behind how many hours comes one that can be divided by every: 0 if it is this one" */
  private static void beaterHours() {
    BarkMakers x = Check.taught("beater a hand 1 every 1;beater b hand 1 every 2;beater c hand 1 every 3;beater d hand 1 every 4;beater e hand 1 every 5;beater f hand 1 every 6;");
    for (int hour = 0; hour <= 61; hour++) {
      for (int every = 1; every <= 6; every++) {
        int due = 0;
        while ((hour + due) % every != 0) {
          due++;
        }
        Check.same("hours from " + hour + " to every " + every, x.beater(every - 1, 2), due);
      }
      x.pass(1);
    }
  }

  /** "3 at which bark this one would beat in this hour ..., -1 if at none, or if it is none that can be divided by every" */
  private static void beaterBoard() {
    BarkMakers x = Check.taught("bark a raw 9 fibre 1;bark c raw 9 fibre 1;beater b hand 1 every 2;beater n hand 1 every 1;beater m hand 1 every 1;"
        + "soak a by 1;beat b on c;beat n on a when soaked a = 0;beat n on c when soaked a = 1;");
    int[][] due = {{1, 0, -1}, {-1, 1, -1}, {1, -1, -1}, {-1, -1, -1}};
    for (int hour = 0; hour < due.length; hour++) {
      for (int beater = 0; beater < 3; beater++) {
        Check.same("board of " + beater + " in hour " + hour + ", without soaking ahead", x.beater(beater, 3), due[hour][beater]);
      }
      x.pass(1);
      Check.same("n beats on a only in a thought, hour " + hour, x.bark(0, 2), 0);
    }
  }

  /** "if there is no such spirit, or what is not 0 to 4" */
  private static void spiritRange() {
    StringBuilder list = new StringBuilder();
    for (int n = 1; n <= 6; n++) {
      list.append("spirit s").append(n).append(" folds ").append(n - 1 - n / 6).append(" cuts ").append(5 * n).append(" price ").append(16 * n).append(';');
      BarkMakers x = Check.taught(list.toString());
      Check.same("folds of the last of " + n, x.spirit(n - 1, 0), n - 1 - n / 6);
      Check.same("cuts of the last of " + n, x.spirit(n - 1, 1), 5 * n);
      Check.same("price of the last of " + n, x.spirit(n - 1, 2), 16 * n);
      Check.same("figures of the last of " + n, x.spirit(n - 1, 3), 0);
      Check.same("sold of the last of " + n, x.spirit(n - 1, 4), 0);
      refusedIndex("spirit of " + n, x, 0, n - 1, spirit -> x.spirit(spirit, 4));
      refusedIndex("spirit's what of " + n, x, 0, 4, what -> x.spirit(0, what));
    }
  }

  /** "if there is no such sheet, or what is not 0 to 3" */
  private static void sheetRange() {
    BarkMakers x = Check.taught(SHEETS);
    for (int sheets = 0; sheets <= 30; sheets++) {
      refusedIndex("sheet of " + sheets, x, 0, sheets - 1, sheet -> x.sheet(sheet, 3));
      x.pass(1);
    }
    refusedIndex("sheet of 30, and no 31st", x, 0, 29, sheet -> x.sheet(sheet, 0));
    refusedIndex("sheet's what", x, 0, 3, what -> x.sheet(29, what));
    int[] due = {0, 2, 2, 1};
    for (int what = 0; what <= 3; what++) {
      Check.same("the last sheet, " + what, x.sheet(29, what), due[what]);
    }
    x.burn(12);
    refusedIndex("sheet of 29 again", x, 0, 28, sheet -> x.sheet(sheet, 0));
  }

  /** "if there is no such figure, or what is not 0 to 2" */
  private static void figureRange() {
    BarkMakers x = Check.taught(FIGURES);
    x.setTourists(0);
    x.pass(3);
    for (int figures = 0; figures <= 30; figures++) {
      refusedIndex("figure of " + figures, x, 0, figures - 1, figure -> x.figure(figure, 0));
      x.pass(1);
    }
    refusedIndex("figure of 30, and no 31st", x, 0, 29, figure -> x.figure(figure, 0));
    refusedIndex("figure's what", x, 0, 2, what -> x.figure(29, what));
    int[] due = {0, 7, 6};
    for (int what = 0; what <= 2; what++) {
      Check.same("the last figure, " + what, x.figure(29, what), due[what]);
    }
  }

  /** "Throws IndexOutOfBoundsException if there is no such bark" */
  private static void forceRange() {
    BarkMakers x = Check.taught("bark k raw 9 fibre 1;" + SHEETS);
    Check.same("force on k", x.force(0), 0);
    Check.same("force on a", x.force(1), 10);
    refusedIndex("force", x, 0, 1, bark -> x.force(bark));
  }

  /** "0 if nobody would (as if there was no soaking ahead; nothing is changed)" */
  private static void forceOfNobody() {
    BarkMakers x = Check.taught("bark a raw 9 fibre 1;beater b hand 5 every 2;soak a by 1;beat b on a when soaked a > 0;");
    long before = x.digest();
    Check.same("nobody without soaking ahead", x.force(0), 0);
    Check.same("nothing is changed", x.digest(), before);
    x.pass(1);
    Check.same("not in this hour", x.force(0), 0);
    x.pass(1);
    Check.same("with what was soaked before", x.force(0), 5);
    Check.same("also where nothing is left to beat", Check.passed("bark a raw 0 fibre 9;beater b hand 5 every 1;beat b on a;", 1).force(0), 5);
  }

  // ---- by hand

  /** "if weather is not 0 to 5" */
  private static void setWeatherRange() {
    BarkMakers x = new BarkMakers();
    int before = 2;
    for (int weather : new int[] {0, 1, 2, 3, 4, 5, 5, 0}) {
      Check.same("the one before " + weather, x.setWeather(weather), before);
      Check.same("weather", x.count(1), weather);
      refusedArgument("setWeather at " + weather, x, 0, 5, wrong -> x.setWeather(wrong));
      before = weather;
    }
  }

  /** "if tourists is not 0 to 20" */
  private static void setTouristsRange() {
    BarkMakers x = new BarkMakers();
    int before = 3;
    for (int tourists : new int[] {0, 1, 19, 20, 20, 0}) {
      Check.same("how many before " + tourists, x.setTourists(tourists), before);
      Check.same("tourists", x.count(2), tourists);
      refusedArgument("setTourists at " + tourists, x, 0, 20, wrong -> x.setTourists(wrong));
      before = tourists;
    }
  }

  /** "if there is no such beater", "if every is not 1 to 6" */
  private static void tuneRange() {
    BarkMakers x = Check.taught("beater a hand 1 every 3;beater b hand 1 every 4;");
    int[] before = {3, 4};
    for (int every : new int[] {1, 2, 5, 6, 6, 1}) {
      for (int beater = 0; beater <= 1; beater++) {
        Check.same("those before " + every, x.tune(beater, every), before[beater]);
        before[beater] = every;
        Check.same("of the first one", x.beater(0, 1), before[0]);
        Check.same("of the second one", x.beater(1, 1), before[1]);
      }
    }
    refusedIndex("tune", x, 0, 1, beater -> x.tune(beater, 1));
    refusedArgument("tune to", x, 1, 6, every -> x.tune(1, every));
  }

  /** "if there is no such sheet", and "its bark does not come back" */
  private static void burnRange() {
    BarkMakers x = Check.passed(SHEETS, 3);
    refusedIndex("burn of 3", x, 0, 2, sheet -> x.burn(sheet));
    int[] bark = {x.bark(0, 0), x.bark(0, 1), x.bark(0, 2)};
    Check.same("burn the last one", x.burn(2), 1);
    refusedIndex("burn of 2", x, 0, 1, sheet -> x.burn(sheet));
    Check.same("burn the first one", x.burn(0), 1);
    Check.same("burn the only one", x.burn(0), 1);
    refusedIndex("burn of none", x, 0, -1, sheet -> x.burn(sheet));
    for (int what = 0; what <= 2; what++) {
      Check.same("its bark does not come back, " + what, x.bark(0, what), bark[what]);
    }
    Check.same("made in all stays", x.count(11), 3);
    BarkMakers y = Check.taught(SHEETS);
    y.setWeather(3);
    y.pass(12);
    Check.same("how mouldy it was, at most 9", y.burn(0), 9);
    Check.same("how mouldy the last one was", y.burn(10), 1);
  }

  /** "Returns how much raw bark there is then, at most 500." */
  private static void bringAtMost500() {
    int[][] rawManyAndThen = {{0, 1, 1}, {0, 500, 500}, {1, 500, 500}, {498, 1, 499}, {499, 1, 500}, {499, 2, 500}, {500, 1, 500}, {500, 500, 500}};
    for (int[] due : rawManyAndThen) {
      BarkMakers x = Check.taught("bark k raw 7 fibre 1;bark a raw " + due[0] + " fibre 1;");
      Check.same("bring " + due[1] + " to " + due[0], x.bring(1, due[1]), due[2]);
      Check.same("raw bark then", x.bark(1, 0), due[2]);
      Check.same("none is soaked", x.bark(1, 1), 0);
      Check.same("none for the other one", x.bark(0, 0), 7);
    }
  }

  /** "if there is no such bark", "if many is not 1 to 500" */
  private static void bringRange() {
    BarkMakers x = Check.taught("bark k raw 7 fibre 1;bark a raw 8 fibre 1;");
    refusedIndex("bring to", x, 0, 1, bark -> x.bring(bark, 1));
    refusedArgument("bring", x, 1, 500, many -> x.bring(1, many));
  }

  // ---- hours

  /** "if hours is not 1 to 96" */
  private static void passRange() {
    BarkMakers x = Check.taught(FIGURES);
    refusedArgument("pass", x, 1, 96, hours -> x.pass(hours));
    Check.same("one hour brings none", x.pass(1), 0);
    Check.same("the hour", x.count(0), 1);
    Check.same("96 hours", x.pass(96) > 0 ? 1 : 0, 1);
    Check.same("the hour then", x.count(0), 97);
  }

  /** "Returns how many coins come in.": in these hours, not in all. */
  private static void passOnlyWhatComesIn() {
    BarkMakers x = Check.passed(FIGURES, 8);
    Check.same("coins by then", x.count(10), 18);
    Check.same("none in the next 7 hours", x.pass(7), 0);
    Check.same("three are sold in the 8th", x.pass(1), 18);
    Check.same("coins by then, in all", x.count(10), 36);
  }

  // ---- what would be

  /** "Throws IndexOutOfBoundsException if there is no such spirit" */
  private static void untilRange() {
    BarkMakers x = Check.taught(FIGURES);
    Check.same("until s", x.until(0), 4);
    Check.same("until t", x.until(1), -1);
    refusedIndex("until", x, 0, 1, spirit -> x.until(spirit));
  }

  /** "0 if one is" */
  private static void until0() {
    BarkMakers x = Check.passed(FIGURES, 3);
    Check.same("in the hour ahead", x.until(0), 1);
    x.pass(1);
    Check.same("one is there", x.until(0), 0);
    x.setTourists(20);
    Check.same("also if it will be sold", x.until(0), 0);
    Check.same("of the other spirit none", x.until(1), -1);
    x.pass(4);
    Check.same("all are sold", x.until(0), 1);
  }

  /** "at most 120; -1 if not by then (nothing is changed)" */
  private static void untilAtMost120() {
    for (int hours = 118; hours <= 123; hours++) {
      BarkMakers x = Check.taught(SHEETS + "spirit s folds 0 cuts 9 price 5;cut s from a when hour = " + (hours - 1) + ";");
      x.setTourists(0);
      long before = x.digest();
      Check.same("behind " + hours + " hours", x.until(0), hours <= 120 ? hours : -1);
      Check.same("nothing is changed", x.digest(), before);
      x.pass(1);
      Check.same("behind " + (hours - 1) + " hours", x.until(0), hours <= 121 ? hours - 1 : -1);
      x.pass(96);
      Check.same("behind " + (hours - 97) + " hours", x.until(0), hours - 97);
    }
  }

  /** "if hours is not 1 to 96", "if what is not 0 to 4" */
  private static void foreseeRange() {
    BarkMakers x = Check.passed(FIGURES, 9);
    Check.same("coins that are there already", x.count(10), 18);
    for (int what = 0; what <= 4; what++) {
      int told = what;
      refusedArgument("foresee what " + what, x, 1, 96, hours -> x.foresee(hours, told));
    }
    for (int hours = 1; hours <= 96; hours += 95) {
      int told = hours;
      refusedIndex("foresee " + hours + " hours", x, 0, 4, what -> x.foresee(told, what));
      long before = x.digest();
      BarkMakers y = Check.passed(FIGURES, 9);
      int made = y.count(11);
      Check.same("coins in " + hours, x.foresee(hours, 0), y.pass(hours));
      Check.same("sheets behind " + hours, x.foresee(hours, 1), y.count(7));
      Check.same("figures behind " + hours, x.foresee(hours, 2), y.count(9));
      Check.same("made in " + hours, x.foresee(hours, 3), y.count(11) - made);
      Check.same("mouldy behind " + hours, x.foresee(hours, 4), 0);
      Check.same("nothing is changed", x.digest(), before);
    }
  }

  /** "4 sheets then that are mouldy by 5 or more" */
  private static void foreseeMouldyBy5() {
    BarkMakers x = Check.taught(SHEETS);
    x.setWeather(3);
    int[] due = {0, 0, 0, 0, 1, 2, 3, 4, 5, 6, 7, 8};
    for (int hours = 1; hours <= due.length; hours++) {
      Check.same("mouldy by 5 or more behind " + hours, x.foresee(hours, 4), due[hours - 1]);
    }
    x.pass(5);
    x.setWeather(0);
    Check.same("also those of before", x.foresee(96, 4), 2);
  }

  /** "Throws IndexOutOfBoundsException if there is no such beater" */
  private static void adviseRange() {
    BarkMakers x = Check.passed(FIGURES, 5);
    refusedIndex("advise", x, 0, 1, beater -> x.advise(beater));
    long before = x.digest();
    Check.same("the same as the other one", x.advise(0), 1);
    Check.same("nothing is changed", x.digest(), before);
  }

  /** "Returns every, 1 to 6, of several the greatest" */
  private static void adviseGreatest() {
    Check.same("all the same", Check.taught("beater b hand 9 every 1;").advise(0), 6);
    // Two beat a sheet in the hour 60 if they are alike, and otherwise none.
    for (int every = 1; every <= 6; every++) {
      BarkMakers x = Check.passed("bark a raw 500 fibre 1;beater b hand 5 every " + every + ";beater c hand 4 every 1;soak a by 60;"
          + "beat b on a when hour = 60;beat c on a when hour = 60;", 13);
      Check.same("only as the other one, every " + every, x.advise(1), every);
    }
    // The hours 0 and 1 to 7 have to be met for the only sheet.
    int[] due = {1, 2, 3, 4, 5, 6, 1};
    for (int hour = 1; hour <= 7; hour++) {
      BarkMakers x = Check.taught("bark a raw 10 fibre 1;beater b hand 9 every 1;soak a by 60;beat b on a when hour = 0 or hour = " + hour + ";");
      Check.same("of several that meet hour " + hour, x.advise(0), due[hour - 1]);
    }
  }

  /** "so that the most sheets are made in 48 hours" */
  private static void advise48Hours() {
    for (int hour = 49; hour <= 56; hour++) {
      BarkMakers x = Check.passed("bark a raw 10 fibre 1;beater b hand 9 every 1;soak a by 60;beat b on a when hour = 5 or hour = " + hour + ";", 5);
      int due = hour == 50 ? 5 : 1;
      Check.same("the 48 hours are 5 to 52, asked for " + hour, x.advise(0), hour <= 52 ? due : 6);
    }
  }

  /** "if hours is not 1 to 72" */
  private static void bestRange() {
    BarkMakers x = Check.passed(FIGURES, 5);
    refusedArgument("best", x, 1, 72, hours -> x.best(hours));
    long before = x.digest();
    Check.same("best of 1", x.best(1), 0);
    Check.same("best of 72", x.best(72), 0);
    Check.same("nothing is changed", x.digest(), before);
  }

  /** "Returns this, 0 to 5, of several the least": with 4 and 5 nothing is ever dry, so these are never better than 0. */
  private static void bestLeast() {
    Check.same("all the same", new BarkMakers().best(72), 0);
    for (int weather = 0; weather <= 3; weather++) {
      String list = SHEETS + "spirit s folds 0 cuts 9 price 5;cut s from a when hour > 7 and weather ";
      Check.same("only " + weather, Check.passed(list + "= " + weather + ";", 8).best(8), weather);
      Check.same("least " + weather, Check.passed(list + ">= " + weather + ";", 8).best(8), weather);
    }
    for (int weather = 4; weather <= 5; weather++) {
      BarkMakers x = Check.passed(FIGURES, 7);
      x.setWeather(weather);
      Check.same("not the one that is", x.best(72), 0);
      Check.same("which stays", x.count(1), weather);
    }
  }

  /** "the most coins come in within so many hours" */
  private static void bestWithinHours() {
    BarkMakers x = Check.taught(SHEETS + "spirit s folds 0 cuts 9 price 5;cut s from a when weather = 1;");
    for (int hours = 1; hours <= 10; hours++) {
      Check.same("best within " + hours, x.best(hours), hours < 8 ? 0 : 1);
    }
    BarkMakers y = Check.passed(SHEETS + "spirit s folds 0 cuts 9 price 5;cut s from a when weather = 1;", 1);
    Check.same("the hour 7 from the hour 1", y.best(6), 0);
    Check.same("the hour 7 from the hour 1, in it", y.best(7), 1);
  }

  /** "if hours is not 1 to 72" */
  private static void spareRange() {
    BarkMakers x = Check.passed(FIGURES, 5);
    refusedArgument("spare", x, 1, 72, hours -> x.spare(hours));
    long before = x.digest();
    Check.same("spare of 1", x.spare(1), -1);
    Check.same("spare of 72", x.spare(72), -1);
    Check.same("nothing is changed", x.digest(), before);
    Check.same("nobody is away in what is foreseen behind it", x.foresee(10, 3), 10);
    x.pass(10);
    Check.same("nor in what is", x.count(11), 15);
  }

  /** "-1 if there is none, or without each one fewer are made than with all" */
  private static void spareNobody() {
    Check.same("there is none", new BarkMakers().spare(1), -1);
    Check.same("none, with bark", Check.taught("bark a raw 500 fibre 1;").spare(72), -1);
    Check.same("each one is missed", Check.taught(SHEETS).spare(1), -1);
    Check.same("the only one is missed", Check.taught("bark a raw 500 fibre 1;beater b hand 9 every 1;soak a by 60;beat b on a;").spare(2), -1);
    Check.same("the only one is not missed yet", Check.taught("bark a raw 500 fibre 1;beater b hand 9 every 1;soak a by 60;beat b on a;").spare(1), 0);
  }

  /** "of several the one with the smallest number" */
  private static void spareSmallest() {
    Check.same("none does anything", Check.taught("beater b hand 9 every 1;beater c hand 9 every 1;").spare(72), 0);
    Check.same("two do nothing", Check.taught(SHEETS + "beater d hand 1 every 1;beater e hand 1 every 1;").spare(1), 2);
    Check.same("as many as with all", Check.taught(SHEETS + "beater d hand 9 every 1;").spare(72), 2);
    // Without the one out of step there are more than with all; without the idle one, as many; without another one, fewer.
    String orders = "soak a by 60;beat b on a;beat c on a;beat d on a;";
    String idle = "bark a raw 500 fibre 1;beater z hand 1 every 1;";
    Check.same("the most without c", Check.taught(idle + "beater b hand 9 every 1;beater c hand 1 every 2;beater d hand 9 every 1;" + orders).spare(10), 2);
    Check.same("the most without b", Check.taught(idle + "beater b hand 1 every 2;beater c hand 9 every 1;beater d hand 9 every 1;" + orders).spare(10), 1);
    Check.same("the most without d", Check.taught(idle + "beater b hand 9 every 1;beater c hand 9 every 1;beater d hand 1 every 2;" + orders).spare(10), 3);
  }

  /** "the most sheets are made in so many hours": here one, in the 10th by both of them, in the 11th by either. */
  private static void spareWithinHours() {
    BarkMakers x = Check.taught("bark a raw 500 fibre 1;beater b hand 5 every 1;beater c hand 5 every 1;soak a by 10 when hour = 9;beat b on a;beat c on a;");
    int[] due = {0, -1, 0, 0};
    int[] hours = {9, 10, 11, 72};
    for (int n = 0; n < hours.length; n++) {
      Check.same("spare of " + hours[n], x.spare(hours[n]), due[n]);
    }
  }

  /** "Returns the mean beauty of all figures; 0 without any." */
  private static void mean0() {
    Check.same("new", new BarkMakers().mean(), 0.0);
    BarkMakers x = Check.passed(FIGURES, 3);
    Check.same("without any", x.mean(), 0.0);
    x.pass(1);
    Check.same("of one", x.mean(), 7.0);
    x.setTourists(20);
    x.pass(4);
    Check.same("all are sold", x.mean(), 0.0);
    Check.same("none is beautiful", Check.passed(SHEETS + "spirit s folds 0 cuts 1 price 5;cut s from a;", 6).mean(), 0.0);
  }

  /** The mean is no whole number; of 30 figures it is one of 30. */
  private static void meanOfAll() {
    BarkMakers x = Check.taught(SHEETS + "spirit s folds 0 cuts 9 price 5;spirit t folds 0 cuts 4 price 3;cut s from a when hour = 3;cut t from a;");
    x.setTourists(0);
    x.pass(5);
    Check.same("of 7 and 2", x.mean(), 4.5);
    x.pass(1);
    Check.same("of 7, 2 and 2", x.mean(), 11.0 / 3);
    x.pass(40);
    Check.same("thirty", x.count(9), 30);
    Check.same("of 7 and 29 times 2", x.mean(), 65.0 / 30);
  }

  /** "d becomes d * 31 + x, which wraps around as a 64-bit integer" */
  private static void digestWrapsAround() {
    BarkMakers x = new BarkMakers();
    Check.same("digest of a new object", x.digest(), reckoned(x));
    BarkMakers y = Check.passed(FIGURES, 7);
    Check.same("digest with all sorts", y.digest(), reckoned(y));
    y.setWeather(4);
    y.setTourists(0);
    y.pass(96);
    y.feed(1, 2, 3, 4, 5);
    Check.same("digest with 30 figures", y.digest(), reckoned(y));
  }

  private static BigInteger digest;

  private static void add(int x) {
    digest = digest.multiply(BigInteger.valueOf(31)).add(BigInteger.valueOf(x));
  }

  /** Reckoned with numbers of any size; the lowest 64 bits are what is left of them. */
  private static long reckoned(BarkMakers x) {
    digest = BigInteger.valueOf(821);
    for (int what = 0; what <= 14; what++) {
      add(x.count(what));
    }
    for (int bark = 0; bark < x.count(3); bark++) {
      for (int what = 0; what <= 4; what++) {
        add(x.bark(bark, what));
      }
      add(x.force(bark));
    }
    for (int beater = 0; beater < x.count(4); beater++) {
      for (int what = 0; what <= 3; what++) {
        add(x.beater(beater, what));
      }
    }
    for (int spirit = 0; spirit < x.count(5); spirit++) {
      for (int what = 0; what <= 4; what++) {
        add(x.spirit(spirit, what));
      }
    }
    for (int sheet = 0; sheet < x.count(7); sheet++) {
      for (int what = 0; what <= 3; what++) {
        add(x.sheet(sheet, what));
      }
    }
    for (int figure = 0; figure < x.count(9); figure++) {
      for (int what = 0; what <= 2; what++) {
        add(x.figure(figure, what));
      }
    }
    return digest.longValue();
  }

  /** "If several exceptions apply, the one that is named first is thrown." */
  private static void firstExceptionIsThrown() {
    BarkMakers x = Check.passed(FIGURES, 5);
    for (int wrong : new int[] {LEAST, -1, 2, MOST}) {
      Check.refusesIndex("tune beater " + wrong + " to 0", x, () -> x.tune(wrong, 0));
      Check.refusesIndex("tune beater " + wrong + " to 7", x, () -> x.tune(wrong, 7));
      Check.refusesIndex("bring 0 to bark " + wrong, x, () -> x.bring(wrong, 0));
      Check.refusesIndex("bring 501 to bark " + wrong, x, () -> x.bring(wrong, 501));
    }
    for (int wrong : new int[] {LEAST, 0, 97, MOST}) {
      Check.refusesArgument("foresee " + wrong + " hours, what -1", x, () -> x.foresee(wrong, -1));
      Check.refusesArgument("foresee " + wrong + " hours, what 5", x, () -> x.foresee(wrong, 5));
    }
  }

  /** "An object is used for at most 512 calls after it has been made" */
  private static void call512() {
    BarkMakers x = new BarkMakers();
    for (int call = 1; call <= 511; call++) {
      Check.same("hours of call " + call, x.pass(96), 0);
    }
    Check.same("call 512", x.count(0), 511 * 96);
  }
}
