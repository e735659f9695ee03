/** Promise 18: pass, and what an hour does. */
public final class HoursTest {
  private static final String MAKERS = "bark a raw 500 fibre 1; beater b hand 9 every 1; spirit s folds 1 cuts 12 price 5;"
      + "soak a by 60; beat b on a; ";

  public static void main(String[] args) {
    arguments();
    sums();
    deepSums();
    tests();
    soaking();
    choosing();
    pulp();
    thickness();
    thirtySheets();
    weather();
    cutting();
    thinEnough();
    mouldyOnes();
    thirtyFigures();
    tourists();
    dearestFirst();
    dearestInTheMiddle();
    twoBarks();
    Check.finish();
  }

  private static void arguments() {
    BarkMakers x = Check.taught(MAKERS);
    Check.refusesArgument("pass 0", x, () -> x.pass(0));
    Check.refusesArgument("pass -1", x, () -> x.pass(-1));
    Check.refusesArgument("pass 97", x, () -> x.pass(97));
    Check.same("pass 1", x.pass(1), 0);
    Check.same("pass 96", x.pass(96), 0);
    Check.same("hours", x.count(0), 97);
  }

  /** What a sum tells is seen by how much of 60 is soaked. */
  private static void sum(String sum, int due) {
    BarkMakers x = Check.taught("bark a raw 60 fibre 1; bark c raw 40 fibre 1; spirit s folds 0 cuts 1 price 1; soak a by " + sum + ";");
    x.pass(1);
    Check.same("soaked by " + sum, x.bark(0, 1), due);
  }

  private static void sums() {
    sum("7", 7);
    sum("2 + 3 * 4", 14);
    sum("(2 + 3) * 4", 20);
    sum("20 - 5 - 4", 11);
    sum("20 / 3", 6);
    sum("20 / 3 / 2", 3);
    sum("20 / 3 * 2", 12);
    sum("30 + -7 / 2", 27);
    sum("30 - (0 - 7) / 2", 33);
    sum("30 + 7 / 0", 30);
    sum("- -5", 5);
    sum("-5", 0);
    sum("min(9, 4) + max(9, 4) * 2", 22);
    sum("raw a / 10 + raw c", 46);
    sum("soaked a + board a + sheets a + figures s + hour + coins + weather", 2);
    sum("65536 * 32768 / 100000 / 1000", 0);
    sum("30 + 65536 * 32768 / 100000 / 1000", 9);
    sum("30 - 65536 * 32768 / -1 / 100000 / 1000", 51);
    sum("999999 * 999999 - 999999 * 999998 - 999960", 39);
    sum("999999", 60);
  }

  /** The last of 24 orders, with sums as deep as they may be. */
  private static void deepSums() {
    StringBuilder list = new StringBuilder("bark a raw 0 fibre 1; bark c raw 60 fibre 1;");
    for (int n = 0; n < 23; n++) {
      list.append("soak a by 1 when 1 < 2;");
    }
    String sum = "0 + 1 * min(9, ".repeat(8) + "7" + ")".repeat(8);
    String test = "1 = 2 or 1 = 1 and 8 > " + sum;
    BarkMakers x = Check.taught(list + "soak c by " + sum + " when " + test + ";");
    x.pass(1);
    Check.same("soaked by a deep sum", x.bark(1, 1), 7);
  }

  private static void test(String test, int due) {
    BarkMakers x = Check.taught("bark a raw 60 fibre 1; soak a by 1 when " + test + ";");
    x.pass(1);
    Check.same("when " + test, x.bark(0, 1), due);
  }

  private static void tests() {
    test("1 < 2", 1);
    test("2 < 2", 0);
    test("2 <= 2", 1);
    test("3 <= 2", 0);
    test("2 > 2", 0);
    test("3 > 2", 1);
    test("2 >= 2", 1);
    test("1 >= 2", 0);
    test("2 = 2", 1);
    test("2 = 1", 0);
    test("not 2 = 1", 1);
    test("not 2 = 2", 0);
    test("not 1 < 2", 0);
    test("not 2 > 1", 0);
    test("not 1 <= 2", 0);
    test("not 2 >= 1", 0);
    test("1 < 2 and 2 = 2", 1);
    test("3 > 2 and 1 <= 2 and 2 >= 1 and not 1 = 2", 1);
    test("not not 2 = 2", 1);
    test("1 = 1 or 1 = 1 and 1 = 2", 1);
    test("[1 = 1 or 1 = 1] and 1 = 2", 0);
    test("not 1 = 1 or 1 = 1", 1);
    test("not [1 = 1 or 1 = 1]", 0);
    test("not 1 = 1 and 1 = 2", 0);
    test("not 1 = 2 and 1 = 1", 1);
    test("1 = 2 and 1 = 1 or 1 = 2", 0);
    test("-1 < 0", 1);
    test("raw a = 60 and soaked a = 0 and weather = 2 and hour = 0 and coins = 0", 1);
  }

  private static void soaking() {
    BarkMakers x = Check.taught("bark a raw 100 fibre 2; bark c raw 3 fibre 1; soak a by 25; soak a by 25 when soaked a < 30; soak c by 5;");
    x.pass(1);
    Check.same("both orders, one behind the other", x.bark(0, 1), 50);
    Check.same("raw bark of them", x.bark(0, 0), 50);
    Check.same("no more than there is", x.bark(1, 1), 3);
    Check.same("none left", x.bark(1, 0), 0);
    x.pass(1);
    Check.same("no more than there is room", x.bark(0, 1), 60);
    Check.same("raw bark without room", x.bark(0, 0), 40);
  }

  private static void choosing() {
    BarkMakers x = Check.taught("bark a raw 60 fibre 1; bark c raw 60 fibre 1; beater b hand 5 every 1; beater d hand 3 every 1;"
        + "soak a by 60; soak c by 60; beat b on a when soaked a = 60; beat b on c; beat d on c when soaked a = 60 and board a = 0;");
    x.pass(1);
    Check.same("b beats on a", x.bark(0, 2), 5);
    Check.same("d does not see b beat", x.bark(1, 2), 3);
    x.pass(1);
    Check.same("nobody on a any more", x.bark(0, 2), 5);
    Check.same("b alone on c", x.bark(1, 2), 8);
    BarkMakers y = Check.taught("bark a raw 5 fibre 1; beater b hand 9 every 2; soak a by 60; beat b on a;");
    y.pass(1);
    Check.same("as far as there is some", y.bark(0, 2), 5);
    y.bring(0, 5);
    y.pass(1);
    Check.same("not in odd hours", y.bark(0, 2), 5);
    Check.same("soaked meanwhile", y.bark(0, 1), 5);
    y.pass(1);
    Check.same("in even hours", y.bark(0, 2), 0);
    Check.same("a sheet", y.count(7), 1);
  }

  private static void pulp() {
    BarkMakers x = Check.taught("bark a raw 60 fibre 3; beater b hand 5 every 1; beater d hand 3 every 1; beater e hand 9 every 2;"
        + "soak a by 60; beat b on a; beat d on a when hour > 0; beat e on a when hour > 1;");
    int[] due = {1, 4, 6, 9, 1};
    for (int hour = 0; hour < due.length; hour++) {
      x.pass(1);
      Check.same("pulp behind hour " + hour, x.bark(0, 2), due[hour]);
    }
    Check.same("sheets of it", x.count(11), 1);
  }

  private static void thickness() {
    String six = "";
    String beat = "";
    for (char name = 'u'; name <= 'z'; name++) {
      six += "beater " + name + " hand 9 every 1; ";
      beat += "beat " + name + " on a; ";
    }
    BarkMakers x = Check.taught("bark a raw 500 fibre 1; " + six + "soak a by 60; " + beat);
    x.pass(1);
    Check.same("60 pulp at once", x.count(7), 6);
    Check.same("at least 1 thick", x.sheet(5, 1), 1);
    Check.same("wet", x.sheet(5, 2), 3);
    Check.same("no pulp left", x.bark(0, 2), 0);
    BarkMakers y = Check.taught("bark a raw 500 fibre 9; beater b hand 9 every 1; soak a by 60; beat b on a; ");
    y.pass(10);
    Check.same("fibre + 3 - 1", y.sheet(0, 1), 11);
  }

  private static void thirtySheets() {
    BarkMakers x = Check.taught("bark a raw 500 fibre 1; beater b hand 9 every 1; beater c hand 9 every 1; soak a by 60; beat b on a; beat c on a when hour < 40;");
    x.pass(15);
    Check.same("30 sheets", x.count(7), 30);
    Check.same("pulp of 15 hours", x.bark(0, 2), 0);
    x.pass(5);
    Check.same("no more sheets", x.count(7), 30);
    Check.same("pulp stays on the board", x.bark(0, 2), 100);
    x.burn(0);
    x.burn(0);
    x.burn(0);
    x.pass(1);
    Check.same("sheets again", x.count(7), 30);
    Check.same("30 pulp less", x.bark(0, 2), 90);
    Check.same("made in all", x.count(11), 33);
    Check.same("the youngest is the last", x.sheet(29, 2), 3);
    Check.same("those ahead are dry", x.sheet(26, 2), 0);
    BarkMakers y = Check.taught("bark a raw 500 fibre 1; beater b hand 9 every 1; soak a by 60; beat b on a when hour < 45 or hour > 50;");
    y.pass(45);
    Check.same("40 * 9 / 10, at most 30", y.count(7), 30);
    int pulp = y.bark(0, 2);
    y.burn(0);
    y.pass(1);
    Check.same("no sheets where nobody beats", y.count(7), 29);
    Check.same("what pulp is left stays", y.bark(0, 2), pulp);
  }

  /** A sheet of hour 1, told as bark, thick, wet, mouldy, by the weather from hour 2 on. */
  private static void weathered(int weather, int hours, int wet, int mould) {
    BarkMakers x = Check.taught("bark a raw 500 fibre 1; beater b hand 9 every 1; soak a by 60; beat b on a when hour < 2;");
    x.pass(2);
    Check.same("wet at first", x.sheet(0, 2), 3);
    Check.same("mouldy at first", x.sheet(0, 3), 1);
    x.setWeather(weather);
    x.pass(hours);
    Check.same("wet by " + hours + " hours of " + weather, x.sheet(0, 2), wet);
    Check.same("mouldy by " + hours + " hours of " + weather, x.sheet(0, 3), mould);
  }

  private static void weather() {
    for (int weather = 0; weather <= 2; weather++) {
      weathered(weather, 1, 2, 1);
      weathered(weather, 3, 0, 1);
      weathered(weather, 9, 0, 1);
    }
    weathered(3, 1, 3, 2);
    weathered(3, 20, 3, 9);
    weathered(4, 1, 4, 2);
    weathered(4, 6, 9, 7);
    weathered(4, 20, 9, 9);
    weathered(5, 1, 4, 2);
    BarkMakers x = Check.taught("bark a raw 500 fibre 1; beater b hand 9 every 1; soak a by 60; beat b on a when hour < 2;");
    x.pass(5);
    Check.same("dry", x.count(8), 1);
    x.setWeather(5);
    x.pass(1);
    Check.same("wet by 1", x.sheet(0, 2), 1);
    Check.same("mouldier, though wet by 1, with 5", x.sheet(0, 3), 2);
    Check.same("not dry", x.count(8), 0);
    x.setWeather(4);
    x.pass(1);
    Check.same("wet by 2", x.sheet(0, 2), 2);
    Check.same("not mouldier, wet by 2, with 4", x.sheet(0, 3), 2);
    x.setWeather(3);
    x.pass(1);
    Check.same("as wet with 3", x.sheet(0, 2), 2);
    Check.same("not mouldier, wet by 2, with 3", x.sheet(0, 3), 2);
  }

  private static void cutting() {
    BarkMakers x = Check.taught(MAKERS + "cut s from a;");
    x.pass(4);
    Check.same("not yet", x.count(9), 0);
    Check.same("three sheets", x.count(7), 3);
    x.pass(1);
    Check.same("a figure", x.count(9), 1);
    Check.same("cut in all", x.count(12), 1);
    Check.same("four sheets, less this one", x.count(7), 3);
    Check.same("12 * 2 - 3 - 2", x.figure(0, 1), 19);
    BarkMakers y = Check.taught(MAKERS + "spirit t folds 4 cuts 1 price 5; cut t from a when sheets a > 2; cut s from a when figures t >= 2; cut t from a;");
    y.pass(4);
    Check.same("none yet", y.count(9), 0);
    y.pass(1);
    Check.same("only one is dry", y.count(9), 1);
    Check.same("the first order's", y.figure(0, 0), 1);
    Check.same("at least 0", y.figure(0, 1), 0);
    y.pass(1);
    Check.same("two by now", y.spirit(1, 3), 2);
    y.pass(1);
    Check.same("three by now", y.spirit(1, 3), 3);
    Check.same("none of the other's, for none is dry", y.spirit(0, 3), 0);
  }

  private static void thinEnough() {
    for (int folds = 0; folds <= 4; folds++) {
      for (int fibre = 1; fibre <= 9; fibre++) {
        BarkMakers x = Check.taught("bark c raw 0 fibre 1; bark a raw 500 fibre " + fibre + "; beater b hand 9 every 1; spirit s folds " + folds
            + " cuts 9 price 1; soak a by 60; beat b on a; cut s from c; cut s from a;");
        x.setTourists(0);
        x.pass(30);
        int thick = fibre + 2;
        boolean thin = folds == 0 || thick <= 12 / folds;
        Check.same("folds " + folds + ", thick " + thick, x.count(12) > 0 ? 1 : 0, thin ? 1 : 0);
        if (thin) {
          Check.same("beauty", x.figure(0, 1), Math.max(0, 9 * (folds + 1) - thick * folds - 2));
        }
      }
    }
  }

  private static void mouldyOnes() {
    BarkMakers x = Check.taught("bark a raw 500 fibre 1; beater b hand 9 every 1; spirit s folds 0 cuts 9 price 1;"
        + "soak a by 60; beat b on a when hour < 2; cut s from a;");
    x.setWeather(3);
    x.pass(4);
    Check.same("mouldy by 3", x.sheet(0, 3), 3);
    x.setWeather(0);
    x.pass(3);
    Check.same("mouldy by 4 when wet by 3, but dry only later", x.count(9) + x.count(7), 1);
    BarkMakers y = Check.taught("bark a raw 500 fibre 1; beater b hand 9 every 1; spirit s folds 0 cuts 9 price 1;"
        + "soak a by 60; beat b on a when hour < 3; cut s from a;");
    y.setWeather(3);
    y.pass(5);
    Check.same("the older one is mouldy by 4", y.sheet(0, 3), 4);
    Check.same("the younger one is mouldy by 3", y.sheet(1, 3), 3);
    y.setWeather(2);
    y.pass(1);
    Check.same("the older one is mouldy by 5", y.sheet(0, 3), 5);
    Check.same("the younger one is mouldy by 4", y.sheet(1, 3), 4);
    y.pass(3);
    Check.same("the younger one is cut", y.count(9), 1);
    Check.same("9 - 2 * 4", y.figure(0, 1), 1);
    Check.same("the older one is left", y.sheet(0, 3), 5);
    Check.same("though it is dry", y.count(8), 1);
  }

  private static void thirtyFigures() {
    BarkMakers x = Check.taught(MAKERS + "cut s from a; cut s from a;");
    x.setTourists(0);
    x.pass(60);
    Check.same("30 figures", x.count(9), 30);
    Check.same("cut in all", x.count(12), 30);
    Check.same("sheets stay then", x.count(7) > 10 ? 1 : 0, 1);
  }

  private static void tourists() {
    BarkMakers x = Check.taught(MAKERS + "cut s from a;");
    Check.same("nobody comes ahead of hour 7", x.pass(7), 0);
    Check.same("three buy in hour 7", x.pass(1), 27);
    Check.same("coins", x.count(10), 27);
    Check.same("sold in all", x.count(13), 3);
    Check.same("left", x.count(9), 1);
    x.setTourists(20);
    Check.same("nobody comes till hour 15", x.pass(7), 0);
    int figures = x.count(9);
    Check.same("all is bought", x.pass(1), 9 * (figures + 1));
    Check.same("none is left", x.count(9), 0);
    x.setTourists(0);
    Check.same("without tourists", x.pass(8), 0);
  }

  private static void dearestFirst() {
    // s is dearer by its beauty, t by its price: 5 + 19 / 4 = 9 of s, 9 + 1 / 4 = 9 of t, so the oldest one goes.
    BarkMakers x = Check.taught("bark a raw 500 fibre 1; beater b hand 9 every 1; spirit s folds 1 cuts 12 price 5; spirit t folds 0 cuts 3 price 9;"
        + "spirit u folds 0 cuts 30 price 3; soak a by 60; beat b on a; cut t from a when hour = 4; cut s from a when hour < 6; cut u from a;");
    x.pass(7);
    int[] spirits = {1, 0, 2};
    int[] paid = {9, 9, 10};
    for (int figure = 0; figure < 3; figure++) {
      Check.same("spirit of " + figure, x.figure(figure, 0), spirits[figure]);
      Check.same("paid for " + figure, x.figure(figure, 2), paid[figure]);
    }
    x.setTourists(3);
    Check.same("two of u, and the oldest of the others", x.pass(1), 29);
    Check.same("one is left", x.count(9), 1);
    Check.same("the younger one", x.figure(0, 0), 0);
    Check.same("sold of s", x.spirit(0, 4), 0);
    Check.same("sold of t", x.spirit(1, 4), 1);
    Check.same("sold of u", x.spirit(2, 4), 2);
  }

  private static void dearestInTheMiddle() {
    BarkMakers x = Check.taught("bark a raw 500 fibre 1; beater b hand 9 every 1;"
        + "spirit s folds 0 cuts 1 price 50; spirit t folds 0 cuts 1 price 10; cut s from a when hour = 5; cut t from a; soak a by 60; beat b on a;");
    x.setTourists(1);
    x.pass(7);
    int[] spirits = {1, 0, 1};
    for (int figure = 0; figure < 3; figure++) {
      Check.same("spirit of " + figure, x.figure(figure, 0), spirits[figure]);
    }
    Check.same("the one in the middle is bought", x.pass(1), 50);
    Check.same("none of it is left", x.spirit(0, 3), 0);
  }

  /** Each bark has a board, sheets and figures of its own; boards go by the numbers of their barks. */
  private static void twoBarks() {
    BarkMakers x = Check.taught("bark a raw 500 fibre 1; bark c raw 500 fibre 2; beater k hand 9 every 1; beater l hand 9 every 1;"
        + "beater m hand 9 every 1; beater n hand 9 every 1; spirit s folds 0 cuts 4 price 1; spirit t folds 0 cuts 8 price 1;"
        + "cut s from c; cut t from a when figures s > 1; soak c by 60; soak a by 60; beat k on c; beat l on c; beat m on a; beat n on a;");
    x.pass(1);
    Check.same("20 pulp of a", x.bark(0, 4), 2);
    Check.same("10 pulp of c", x.bark(1, 4), 1);
    int[] barks = {0, 0, 1};
    int[] thick = {2, 2, 3};
    for (int sheet = 0; sheet < 3; sheet++) {
      Check.same("bark of sheet " + sheet, x.sheet(sheet, 0), barks[sheet]);
      Check.same("sheet " + sheet + " is thick", x.sheet(sheet, 1), thick[sheet]);
    }
    x.pass(3);
    Check.same("cut from c", x.spirit(0, 3), 1);
    Check.same("not from a yet", x.spirit(1, 3), 0);
    Check.same("all of a are left", x.bark(0, 4), 8);
    Check.same("one of c is gone", x.bark(1, 4), 3);
    x.pass(1);
    Check.same("two cut from c", x.spirit(0, 3), 2);
    Check.same("then from a", x.spirit(1, 3), 1);
    Check.same("beauty of it", x.figure(2, 1), 6);
  }
}
