/** Promises 19 to 25: until, foresee, advise, best, spare, mean and digest. */
public final class OutlookTest {
  private static final String RICH = "bark a raw 500 fibre 2; bark c raw 300 fibre 4; beater k hand 9 every 2; beater l hand 6 every 3;"
      + "beater m hand 8 every 1; spirit s folds 2 cuts 9 price 20; spirit t folds 0 cuts 14 price 5;"
      + "soak a by 12 when soaked a < 30; soak c by 20 - soaked c; beat k on a; beat l on a when board a < 8 or hour > 20;"
      + "beat l on c; beat m on c when soaked c > 3; beat m on a; cut s from a when sheets a > 1; cut t from c;";

  public static void main(String[] args) {
    until();
    foresee();
    advise();
    best();
    spare();
    mean();
    digest();
    Check.finish();
  }

  private static void until() {
    BarkMakers x = Check.taught("bark a raw 500 fibre 1; beater b hand 9 every 1; spirit s folds 1 cuts 12 price 5; spirit t folds 0 cuts 1 price 1;"
        + "spirit u folds 0 cuts 1 price 1; spirit v folds 0 cuts 1 price 1; soak a by 60; beat b on a; cut s from a; cut t from a when hour = 119;"
        + "cut u from a when hour = 120; cut v from a when hour - hour / 8 * 8 = 7;");
    long before = x.digest();
    Check.same("until s", x.until(0), 5);
    Check.same("until t, 120 hours on, without a sheet for it", x.until(1), -1);
    Check.same("nothing is changed", x.digest(), before);
    x.pass(4);
    Check.same("until s from hour 4", x.until(0), 1);
    x.pass(1);
    Check.same("until s when one is there", x.until(0), 0);
    Check.refusesIndex("until -1", x, () -> x.until(-1));
    Check.refusesIndex("until 4", x, () -> x.until(4));
    BarkMakers y = Check.taught("bark a raw 500 fibre 1; beater b hand 9 every 1; spirit s folds 0 cuts 12 price 5; spirit t folds 0 cuts 1 price 1;"
        + "spirit u folds 0 cuts 1 price 1; soak a by 60; beat b on a when hour < 9; cut s from a when hour = 118; cut u from a when hour = 120; cut t from a when hour = 7;");
    Check.same("at most 120", y.until(0), 119);
    Check.same("behind 121 hours", y.until(2), -1);
    Check.same("bought in the hour in which it is cut", y.until(1), -1);
    y.pass(1);
    Check.same("behind 120 hours", y.until(2), 120);
    y.setTourists(0);
    Check.same("not bought", y.until(1), 7);
  }

  private static void foresee() {
    for (int hours = 1; hours <= 96; hours += 5) {
      BarkMakers x = Check.taught(RICH);
      x.setWeather(hours % 6);
      x.pass(10);
      x.setWeather(2);
      long before = x.digest();
      int made = x.count(11);
      int[] due = new int[5];
      for (int what = 0; what <= 4; what++) {
        due[what] = x.foresee(hours, what);
      }
      Check.same("nothing is changed", x.digest(), before);
      Check.same("coins that come in", x.pass(hours), due[0]);
      Check.same("sheets then", x.count(7), due[1]);
      Check.same("figures then", x.count(9), due[2]);
      Check.same("sheets made", x.count(11) - made, due[3]);
      int mouldy = 0;
      for (int sheet = 0; sheet < x.count(7); sheet++) {
        mouldy += x.sheet(sheet, 3) >= 5 ? 1 : 0;
      }
      Check.same("mouldy sheets", mouldy, due[4]);
    }
    BarkMakers x = Check.taught("bark a raw 500 fibre 1; beater b hand 9 every 1; spirit s folds 1 cuts 12 price 5; soak a by 60; beat b on a; cut s from a;");
    Check.same("coins", x.foresee(8, 0), 27);
    Check.same("sheets", x.foresee(8, 1), 3);
    Check.same("figures", x.foresee(8, 2), 1);
    Check.same("made", x.foresee(8, 3), 7);
    Check.same("mouldy", x.foresee(8, 4), 0);
    x.setWeather(5);
    Check.same("mouldy by weather", x.foresee(8, 4), 3);
    Check.refusesArgument("foresee 0", x, () -> x.foresee(0, 0));
    Check.refusesArgument("foresee 97, and wrongly", x, () -> x.foresee(97, 5));
    Check.refusesIndex("foresee what 5", x, () -> x.foresee(96, 5));
    Check.refusesIndex("foresee what -1", x, () -> x.foresee(1, -1));
  }

  private static void advise() {
    BarkMakers x = Check.taught("bark a raw 500 fibre 9; beater b hand 9 every 6; beater n hand 9 every 2; soak a by 60; beat b on a;");
    Check.same("alone, the oftenest", x.advise(0), 1);
    Check.same("of several the greatest", x.advise(1), 6);
    Check.refusesIndex("advise -1", x, () -> x.advise(-1));
    Check.refusesIndex("advise 2", x, () -> x.advise(2));
    BarkMakers y = Check.taught("bark a raw 500 fibre 1; beater b hand 9 every 2; beater n hand 9 every 6; soak a by 9; beat b on a; beat n on a;");
    y.pass(5);
    adviseIsTried(y, 0);
    adviseIsTried(y, 1);
    // Two beat 20 of pulp only in the same rhythm, and only in one hour: the 48th, or the 49th, which is too late.
    String pair = "bark a raw 500 fibre 1; beater b hand 9 every 2; beater n hand 9 every 1; soak a by 60; beat n on a when hour = 47; beat b on a when hour = 47;";
    BarkMakers last = Check.taught(pair);
    Check.same("48 hours count", last.advise(0), 1);
    BarkMakers late = Check.taught(pair.replace("47", "48"));
    Check.same("no more than 48 hours count", late.advise(0), 6);
    BarkMakers z = Check.taught(RICH);
    for (int beater = 0; beater <= 2; beater++) {
      adviseIsTried(z, beater);
    }
  }

  private static void adviseIsTried(BarkMakers x, int beater) {
    long before = x.digest();
    int advised = x.advise(beater);
    Check.same("nothing is changed", x.digest(), before);
    int every = x.beater(beater, 1);
    int most = -1;
    int due = 0;
    for (int tried = 1; tried <= 6; tried++) {
      x.tune(beater, tried);
      int made = x.foresee(48, 3);
      due = made >= most ? tried : due;
      most = Math.max(most, made);
    }
    x.tune(beater, every);
    Check.same("advise " + beater, advised, due);
  }

  private static void best() {
    BarkMakers none = new BarkMakers();
    Check.same("of several the least", none.best(1), 0);
    Check.refusesArgument("best 0", none, () -> none.best(0));
    Check.refusesArgument("best 73", none, () -> none.best(73));
    BarkMakers x = Check.taught("bark a raw 500 fibre 1; beater b hand 9 every 1; spirit s folds 1 cuts 12 price 5; soak a by 60; beat b on a; cut s from a when weather = 1;");
    long before = x.digest();
    Check.same("the weather that the orders ask for", x.best(72), 1);
    Check.same("nothing is changed", x.digest(), before);
    Check.same("too early for all", x.best(7), 0);
    Check.same("hour 7", x.best(8), 1);
  }

  private static void spare() {
    BarkMakers none = Check.taught("bark a raw 500 fibre 1;");
    Check.same("there is none", none.spare(9), -1);
    Check.refusesArgument("spare 0", none, () -> none.spare(0));
    Check.refusesArgument("spare 73", none, () -> none.spare(73));
    BarkMakers x = Check.taught("bark a raw 500 fibre 1; beater b hand 9 every 1; beater n hand 9 every 1; beater m hand 1 every 1; soak a by 60; beat b on a; beat n on a;");
    long before = x.digest();
    Check.same("who does nothing", x.spare(10), 2);
    Check.same("nothing is changed", x.digest(), before);
    Check.same("of several the smallest number", x.spare(1), 2);
    BarkMakers y = Check.taught("bark a raw 500 fibre 1; beater b hand 9 every 1; beater n hand 9 every 1; soak a by 60; beat b on a; beat n on a;");
    Check.same("each one fewer", y.spare(10), -1);
    BarkMakers z = Check.taught("bark a raw 500 fibre 1; beater b hand 9 every 1; beater n hand 1 every 2; beater m hand 9 every 1; soak a by 60; beat b on a; beat n on a; beat m on a;");
    Check.same("who is out of step", z.spare(10), 1);
    Check.same("nor in the next spare", y.spare(10), -1);
    int foreseen = y.foresee(10, 3);
    y.pass(10);
    Check.same("nobody is spared behind it", foreseen, y.count(11));
    BarkMakers idle = Check.taught("beater b hand 9 every 1; beater n hand 1 every 2;");
    Check.same("none made with or without", idle.spare(72), 0);
  }

  private static void mean() {
    BarkMakers x = Check.taught("bark a raw 500 fibre 1; beater b hand 9 every 1; spirit s folds 1 cuts 12 price 5; spirit t folds 0 cuts 3 price 1;"
        + "soak a by 60; beat b on a; cut s from a when hour < 6; cut t from a;");
    Check.same("mean of none", x.mean(), 0.0);
    x.pass(5);
    Check.same("mean of one", x.mean(), 19.0);
    x.pass(2);
    Check.same("mean of 19, 19 and 1", x.mean(), 39.0 / 3);
    x.setTourists(1);
    x.pass(1);
    Check.same("mean of 19, 1 and 1", x.mean(), 7.0);
    x.pass(1);
    Check.same("mean of 19, 1, 1 and 1", x.mean(), 5.5);
  }

  private static void digest() {
    Check.same("digest of a new one", new BarkMakers().digest(), reckoned(new BarkMakers()));
    BarkMakers x = Check.taught(RICH);
    for (int n = 0; n < 20; n++) {
      Check.same("digest in hour " + x.count(0), x.digest(), reckoned(x));
      x.pass(n % 5 + 1);
      x.setWeather(n * n % 3);
    }
    x.feed(1, 2, 3, 4, 5);
    Check.same("digest with a tape", x.digest(), reckoned(x));
  }

  private static long reckoned(BarkMakers x) {
    long d = 821;
    for (int what = 0; what < 15; what++) {
      d = 31 * d + x.count(what);
    }
    for (int i = 0; i < x.count(3); i++) {
      d = 31 * (31 * (31 * (31 * d + x.bark(i, 0)) + x.bark(i, 1)) + x.bark(i, 2)) + x.bark(i, 3);
      d = 31 * (31 * d + x.bark(i, 4)) + x.force(i);
    }
    for (int i = 0; i < x.count(4); i++) {
      d = 31 * (31 * (31 * (31 * d + x.beater(i, 0)) + x.beater(i, 1)) + x.beater(i, 2)) + x.beater(i, 3);
    }
    for (int i = 0; i < x.count(5); i++) {
      d = 31 * (31 * (31 * (31 * d + x.spirit(i, 0)) + x.spirit(i, 1)) + x.spirit(i, 2)) + x.spirit(i, 3);
      d = 31 * d + x.spirit(i, 4);
    }
    for (int i = 0; i < x.count(7); i++) {
      d = 31 * (31 * (31 * (31 * d + x.sheet(i, 0)) + x.sheet(i, 1)) + x.sheet(i, 2)) + x.sheet(i, 3);
    }
    for (int i = 0; i < x.count(9); i++) {
      d = 31 * (31 * (31 * d + x.figure(i, 0)) + x.figure(i, 1)) + x.figure(i, 2);
    }
    return d;
  }
}
