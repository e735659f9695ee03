/** Promises 7 to 12: bark, beater, spirit, sheet, figure and force. */
public final class ThingsTest {
  private static final String CUTTERS = "bark a raw 500 fibre 1; beater b hand 9 every 1; spirit s folds 1 cuts 12 price 5;"
      + "spirit t folds 0 cuts 3 price 1; soak a by 60; beat b on a; cut s from a;";

  public static void main(String[] args) {
    barkAndSheet();
    beater();
    spiritAndFigure();
    forceOfHands();
    forceBeforeSoaking();
    Check.finish();
  }

  private static void barkAndSheet() {
    BarkMakers x = Check.taught("bark a raw 100 fibre 2; bark c raw 5 fibre 9; beater b hand 5 every 1; soak a by 20; beat b on a;");
    bark(x, 0, 100, 0, 0, 2, 0);
    x.pass(1);
    bark(x, 0, 80, 18, 2, 2, 0);
    bark(x, 1, 5, 0, 0, 9, 0);
    x.pass(4);
    bark(x, 0, 32, 58, 0, 2, 1);
    bark(x, 1, 5, 0, 0, 9, 0);
    int[] due = {0, 4, 3, 1};
    for (int what = 0; what <= 3; what++) {
      Check.same("sheet " + what, x.sheet(0, what), due[what]);
    }
    Check.refusesIndex("bark -1", x, () -> x.bark(-1, 0));
    Check.refusesIndex("bark 2", x, () -> x.bark(2, 0));
    Check.refusesIndex("bark 0 -1", x, () -> x.bark(0, -1));
    Check.refusesIndex("bark 0 5", x, () -> x.bark(0, 5));
    Check.refusesIndex("sheet -1", x, () -> x.sheet(-1, 0));
    Check.refusesIndex("sheet 1", x, () -> x.sheet(1, 0));
    Check.refusesIndex("sheet 0 -1", x, () -> x.sheet(0, -1));
    Check.refusesIndex("sheet 0 4", x, () -> x.sheet(0, 4));
    BarkMakers none = new BarkMakers();
    Check.refusesIndex("bark 0 of none", none, () -> none.bark(0, 0));
    Check.refusesIndex("sheet 0 of none", none, () -> none.sheet(0, 0));
  }

  private static void bark(BarkMakers x, int bark, int... due) {
    for (int what = 0; what <= 4; what++) {
      Check.same("bark " + bark + " " + what + " in hour " + x.count(0), x.bark(bark, what), due[what]);
    }
  }

  private static void beater() {
    BarkMakers x = Check.taught("bark a raw 9 fibre 2; bark c raw 5 fibre 9; beater b hand 5 every 3; beater n hand 1 every 1;"
        + "beat b on a when hour > 2; beat b on c; beat b on a;");
    int[][] due = {{5, 3, 0, 1}, {5, 3, 2, -1}, {5, 3, 1, -1}, {5, 3, 0, 0}, {5, 3, 2, -1}};
    for (int hour = 0; hour < due.length; hour++) {
      for (int what = 0; what <= 3; what++) {
        Check.same("beater 0 " + what + " in hour " + hour, x.beater(0, what), due[hour][what]);
      }
      Check.same("a beater without orders", x.beater(1, 3), -1);
      Check.same("every hour is one of every 1", x.beater(1, 2), 0);
      x.pass(1);
    }
    x.tune(0, 4);
    Check.same("tuned", x.beater(0, 1), 4);
    Check.same("tuned, hours to the next", x.beater(0, 2), 3);
    Check.refusesIndex("beater -1", x, () -> x.beater(-1, 0));
    Check.refusesIndex("beater 2", x, () -> x.beater(2, 0));
    Check.refusesIndex("beater 0 -1", x, () -> x.beater(0, -1));
    Check.refusesIndex("beater 0 4", x, () -> x.beater(0, 4));
  }

  private static void spiritAndFigure() {
    BarkMakers x = Check.taught(CUTTERS);
    spirit(x, 0, 1, 12, 5, 0, 0);
    spirit(x, 1, 0, 3, 1, 0, 0);
    x.pass(7);
    spirit(x, 0, 1, 12, 5, 3, 0);
    int[] due = {0, 19, 9};
    for (int what = 0; what <= 2; what++) {
      Check.same("figure " + what, x.figure(2, what), due[what]);
    }
    Check.refusesIndex("figure -1", x, () -> x.figure(-1, 0));
    Check.refusesIndex("figure 3", x, () -> x.figure(3, 0));
    Check.refusesIndex("figure 0 -1", x, () -> x.figure(0, -1));
    Check.refusesIndex("figure 0 3", x, () -> x.figure(0, 3));
    Check.refusesIndex("spirit -1", x, () -> x.spirit(-1, 0));
    Check.refusesIndex("spirit 2", x, () -> x.spirit(2, 0));
    Check.refusesIndex("spirit 0 -1", x, () -> x.spirit(0, -1));
    Check.refusesIndex("spirit 0 5", x, () -> x.spirit(0, 5));
    x.pass(1);
    spirit(x, 0, 1, 12, 5, 1, 3);
    spirit(x, 1, 0, 3, 1, 0, 0);
  }

  private static void spirit(BarkMakers x, int spirit, int... due) {
    for (int what = 0; what <= 4; what++) {
      Check.same("spirit " + spirit + " " + what + " in hour " + x.count(0), x.spirit(spirit, what), due[what]);
    }
  }

  private static void forceOfHands() {
    BarkMakers x = Check.taught("bark a raw 9 fibre 2; bark c raw 5 fibre 9; beater b hand 5 every 2; beater n hand 4 every 2;"
        + "beater m hand 2 every 3; beat b on a; beat n on a; beat m on a when hour < 6; beat m on c;");
    int[] due = {5, 0, 11, 2, 11, 0, 11, 0};
    for (int hour = 0; hour < due.length; hour++) {
      Check.same("force in hour " + hour, x.force(0), due[hour]);
      Check.same("force on c in hour " + hour, x.force(1), hour == 6 ? 2 : 0);
      x.pass(1);
    }
    Check.refusesIndex("force -1", x, () -> x.force(-1));
    Check.refusesIndex("force 2", x, () -> x.force(2));
  }

  private static void forceBeforeSoaking() {
    BarkMakers x = Check.taught("bark a raw 9 fibre 1; beater b hand 5 every 1; soak a by 5; beat b on a when soaked a > 0;");
    long before = x.digest();
    Check.same("force without soaking", x.force(0), 0);
    Check.same("board without soaking", x.beater(0, 3), -1);
    Check.same("force changes nothing", x.digest(), before);
    x.pass(1);
    Check.same("but in the hour it is soaked ahead", x.bark(0, 2), 5);
  }
}
