/** Each sentence of '2. The mountain' that names a boundary case, by a test of its own. */
public final class MountainEdgesTest {
  /** A sheet in the hour 0, and no other one. */
  private static final String ONE_SHEET = "bark a raw 10 fibre 1;" + Check.PAIR;
  private static final String SHEETS = "bark a raw 500 fibre 1;" + Check.PAIR;

  public static void main(String[] args) {
    atFirst();
    soaked0To60();
    atMost30Sheets();
    atMost30Figures();
    sheetsAreNumberedByAge();
    cutSheetsGo();
    soldFiguresGo();
    soakTestHoldsNow();
    soakNoneIfLessThan0();
    soakAsFarAsThereIsSome();
    soakAsFarAsThereIsRoom();
    hoursThatCanBeDivided();
    firstOrderThatHolds();
    withoutAnyNotAtAll();
    behindSoaking();
    beforeAnybodyBeats();
    forceOfOne();
    forceOfMany();
    forceOfThoseWhoBeatNow();
    forceByFibreIsCut();
    pulpAsFarAsThereIsSome();
    eachWhole10();
    thickAtLeast1();
    wetBy4();
    leftPulpStays();
    driesAtLeast0();
    staysAsWet();
    wetterAtMost9();
    mouldierFrom3();
    mouldierWithWeather5();
    mouldyAtMost9();
    thoseOfThisHour();
    cutTestHoldsNow();
    cutNotWet();
    cutMouldyByLessThan5();
    cutThickByNoMore();
    cutWithoutFolds();
    cutTheOldest();
    cutOneAnOrder();
    beautyAtLeast0();
    hoursOfTourists();
    asManyTourists();
    mostIsPaid();
    quarterOfBeauty();
    hourIs1Greater();
    valuesOfSums();
    bothSidesAndBinding();
    Check.finish();
  }

  private static void sheet(String what, BarkMakers x, int sheet, int wet, int mouldy) {
    Check.same(what + ", wet", x.sheet(sheet, 2), wet);
    Check.same(what + ", mouldy", x.sheet(sheet, 3), mouldy);
  }

  // ---- what there is

  /** "soaked bark, 0 (at first)", "pulp, 0 (at first)", "weather ... 2, at first", "tourists ... 3, at first", "coins (0, at first)" */
  private static void atFirst() {
    BarkMakers x = Check.taught("bark a raw 500 fibre 1;bark c raw 0 fibre 1;");
    for (int bark = 0; bark <= 1; bark++) {
      Check.same("raw", x.bark(bark, 0), 500 - 500 * bark);
      Check.same("soaked", x.bark(bark, 1), 0);
      Check.same("pulp", x.bark(bark, 2), 0);
    }
    Check.same("weather", x.count(1), 2);
    Check.same("tourists", x.count(2), 3);
    Check.same("coins", x.count(10), 0);
  }

  /** "soaked bark, 0 (at first) to 60" */
  private static void soaked0To60() {
    int[] sums = {0, 1, 59, 60, 61, 999999};
    for (int sum : sums) {
      BarkMakers x = Check.passed("bark a raw 500 fibre 1;soak a by " + sum + ";", 1);
      Check.same("soaked by " + sum, x.bark(0, 1), Math.min(60, sum));
      Check.same("raw less " + sum, x.bark(0, 0), 500 - Math.min(60, sum));
    }
  }

  /** "There are sheets, at most 30", "as long as there are fewer than 30 sheets" */
  private static void atMost30Sheets() {
    BarkMakers x = Check.passed("bark a raw 290 fibre 1;" + Check.PAIR, 29);
    Check.same("29 sheets", x.count(7), 29);
    x.bring(0, 10);
    x.pass(1);
    Check.same("30 sheets", x.count(7), 30);
    Check.same("no pulp left of them", x.bark(0, 2), 0);
    x.bring(0, 20);
    x.pass(1);
    Check.same("no 31st sheet", x.count(7), 30);
    Check.same("pulp of it stays", x.bark(0, 2), 10);
    Check.same("made in all", x.count(11), 30);
    x.pass(1);
    Check.same("pulp of two stays", x.bark(0, 2), 20);
    x.burn(0);
    x.pass(1);
    Check.same("one is made of it, not two", x.count(7), 30);
    Check.same("pulp of the other one stays", x.bark(0, 2), 10);
    Check.same("made in all by then", x.count(11), 31);
  }

  /** "There are figures, at most 30", "and there are fewer than 30 figures" */
  private static void atMost30Figures() {
    BarkMakers x = Check.taught("bark a raw 290 fibre 1;" + Check.PAIR + "spirit s folds 0 cuts 9 price 1;cut s from a;");
    x.setTourists(0);
    x.pass(32);
    Check.same("29 figures", x.count(9), 29);
    Check.same("no sheet is left", x.count(7), 0);
    x.bring(0, 20);
    x.pass(4);
    Check.same("30 figures", x.count(9), 30);
    Check.same("the next sheet is not dry yet", x.count(8), 0);
    x.pass(3);
    Check.same("no 31st figure", x.count(9), 30);
    Check.same("its sheet is dry and stays", x.count(8), 1);
    Check.same("cut in all", x.count(12), 30);
    x.setTourists(1);
    x.pass(1);
    Check.same("one was sold", x.count(9), 29);
    x.pass(1);
    Check.same("another one is cut", x.count(9), 30);
    Check.same("cut in all by then", x.count(12), 31);
    Check.same("of the sheet that stayed", x.count(7), 0);
  }

  /** "numbered from 0 by their age, the oldest one first", "Where one goes, those behind it have numbers that are 1 less." */
  private static void sheetsAreNumberedByAge() {
    BarkMakers x = Check.taught("bark a raw 60 fibre 1;" + Check.PAIR);
    x.setWeather(3);
    x.pass(6);
    moulds(x, 6, 5, 4, 3, 2, 1);
    Check.same("burn one of the middle", x.burn(2), 4);
    moulds(x, 6, 5, 3, 2, 1);
    Check.same("burn the first one", x.burn(0), 6);
    moulds(x, 5, 3, 2, 1);
    Check.same("burn the last one", x.burn(3), 1);
    moulds(x, 5, 3, 2);
    x.bring(0, 10);
    x.pass(1);
    moulds(x, 6, 4, 3, 1);
  }

  private static void moulds(BarkMakers x, int... due) {
    Check.same("sheets", x.count(7), due.length);
    for (int sheet = 0; sheet < due.length; sheet++) {
      Check.same("sheet " + sheet + " of " + due.length + " is mouldy", x.sheet(sheet, 3), due[sheet]);
      Check.same("sheet " + sheet + " of " + due.length + " is wet", x.sheet(sheet, 2), 4);
    }
  }

  /** "Where one goes, those behind it have numbers that are 1 less": a sheet that is cut. */
  private static void cutSheetsGo() {
    BarkMakers x = Check.taught("bark k raw 10 fibre 1;bark a raw 20 fibre 1;beater b hand 4 every 1;beater c hand 4 every 1;soak k by 60;soak a by 60;"
        + "beat b on k when soaked k > 0;beat c on k when soaked k > 0;beat b on a;beat c on a;spirit s folds 0 cuts 30 price 1;cut s from a when hour > 5;");
    x.pass(6);
    Check.same("three sheets", x.count(7), 3);
    Check.same("the oldest of k", x.sheet(0, 0), 0);
    x.burn(1);
    x.pass(1);
    Check.same("the one of a behind it was cut", x.count(7), 1);
    Check.same("the one of k is the first", x.sheet(0, 0), 0);
    BarkMakers y = Check.taught("bark k raw 10 fibre 1;bark a raw 10 fibre 1;beater b hand 4 every 1;beater c hand 4 every 1;soak k by 60;soak a by 60;"
        + "beat b on k when soaked k > 0;beat c on k when soaked k > 0;beat b on a;beat c on a;spirit s folds 0 cuts 30 price 1;cut s from k when hour > 5;");
    y.pass(7);
    Check.same("the one of k ahead of it was cut", y.count(7), 1);
    Check.same("the one of a has the number 0", y.sheet(0, 0), 1);
  }

  /** "There are figures ... numbered likewise", "Where one goes, those behind it have numbers that are 1 less." */
  private static void soldFiguresGo() {
    int[][] prices = {{9, 5, 5, 5}, {5, 9, 5, 5}, {5, 5, 5, 9}};
    int[][] left = {{1, 2, 3}, {0, 2, 3}, {0, 1, 2}};
    for (int n = 0; n < prices.length; n++) {
      BarkMakers x = Check.taught(figures(prices[n]));
      x.setTourists(1);
      x.pass(7);
      spirits(x, 0, 1, 2, 3);
      x.pass(1);
      spirits(x, left[n]);
    }
  }

  /** Four spirits with these prices, cut in the hours 3 to 6, in their order. */
  private static String figures(int... prices) {
    StringBuilder list = new StringBuilder(SHEETS);
    for (int spirit = 0; spirit < prices.length; spirit++) {
      list.append("spirit s").append(spirit).append(" folds 0 cuts 1 price ").append(prices[spirit]).append(';');
      list.append("cut s").append(spirit).append(" from a when hour = ").append(spirit + 3).append(';');
    }
    return list.toString();
  }

  private static void spirits(BarkMakers x, int... due) {
    Check.same("figures", x.count(9), due.length);
    for (int figure = 0; figure < due.length; figure++) {
      Check.same("spirit of figure " + figure + " of " + due.length, x.figure(figure, 0), due[figure]);
    }
  }

  // ---- 1. soaking

  /** "if the test holds now (or there is none)", "in the order in which they are told" */
  private static void soakTestHoldsNow() {
    Check.same("without a test", Check.passed("bark a raw 9 fibre 1;soak a by 1;", 1).bark(0, 1), 1);
    Check.same("a test that holds", Check.passed("bark a raw 9 fibre 1;soak a by 1 when soaked a = 0;", 1).bark(0, 1), 1);
    Check.same("a test that does not", Check.passed("bark a raw 9 fibre 1;soak a by 1 when soaked a = 1;", 1).bark(0, 1), 0);
    Check.same("no more behind the first order", Check.passed("bark a raw 9 fibre 1;soak a by 1;soak a by 3 when soaked a = 0;", 1).bark(0, 1), 1);
    Check.same("only behind the first order", Check.passed("bark a raw 9 fibre 1;soak a by 1;soak a by 3 when soaked a = 1;", 1).bark(0, 1), 4);
    Check.same("not yet behind the second order", Check.passed("bark a raw 9 fibre 1;soak a by 3 when soaked a = 1;soak a by 1;", 1).bark(0, 1), 1);
    Check.same("the sum as well", Check.passed("bark a raw 9 fibre 1;soak a by 2;soak a by soaked a * 2;", 1).bark(0, 1), 6);
  }

  /** "as much raw bark as its sum tells (none, if it is less than 0)" */
  private static void soakNoneIfLessThan0() {
    String[] none = {"0", "-1", "-999999", "0-65536*32768", "65536*32767+65536"};
    for (String sum : none) {
      BarkMakers x = Check.passed("bark a raw 9 fibre 1;soak a by 4;soak a by " + sum + ";", 1);
      Check.same("soaked by 4 and " + sum, x.bark(0, 1), 4);
      Check.same("raw less 4 and " + sum, x.bark(0, 0), 5);
    }
    Check.same("soaked by 4 and 1", Check.passed("bark a raw 9 fibre 1;soak a by 4;soak a by 1;", 1).bark(0, 1), 5);
  }

  /** "is soaked, as far as there is some" */
  private static void soakAsFarAsThereIsSome() {
    for (int raw = 0; raw <= 7; raw++) {
      BarkMakers x = Check.passed("bark a raw " + raw + " fibre 1;soak a by 5;", 1);
      Check.same("soaked of " + raw, x.bark(0, 1), Math.min(5, raw));
      Check.same("left of " + raw, x.bark(0, 0), raw - Math.min(5, raw));
    }
    Check.same("by the greatest number", Check.passed("bark a raw 9 fibre 1;soak a by 65536*32767+65535;", 1).bark(0, 1), 9);
  }

  /** "and room" */
  private static void soakAsFarAsThereIsRoom() {
    for (int second = 19; second <= 21; second++) {
      BarkMakers x = Check.passed("bark a raw 500 fibre 1;soak a by 40;soak a by " + second + ";", 1);
      int due = Math.min(60, 40 + second);
      Check.same("soaked by 40 and " + second, x.bark(0, 1), due);
      Check.same("raw less 40 and " + second, x.bark(0, 0), 500 - due);
      x.pass(1);
      Check.same("no room is left", x.bark(0, 1), 60);
      Check.same("nothing is lost", x.bark(0, 0), 440);
    }
  }

  // ---- 2. beating

  /** "A beater beats in hours that can be divided by every" */
  private static void hoursThatCanBeDivided() {
    for (int every = 1; every <= 6; every++) {
      BarkMakers x = Check.taught("bark a raw 500 fibre 1;beater b hand 1 every " + every + ";soak a by 60;beat b on a;");
      int pulp = 0;
      for (int hour = 0; hour <= 13; hour++) {
        int due = hour == hour / every * every ? 1 : 0;
        Check.same("force in hour " + hour + ", every " + every, x.force(0), due);
        x.pass(1);
        pulp = (pulp + due) % 10;
        Check.same("pulp behind hour " + hour + ", every " + every, x.bark(0, 2), pulp);
      }
    }
  }

  /** "at the board of the first order of beat of this one, in the order in which they are told, whose test holds ... (or that has none)" */
  private static void firstOrderThatHolds() {
    String head = "bark a raw 9 fibre 1;bark c raw 9 fibre 1;beater n hand 1 every 1;beater b hand 5 every 1;";
    String[] orders = {"beat b on c;beat b on a;", "beat b on c when 1 = 1;beat b on a when 1 = 1;", "beat b on a when 1 = 2;beat b on c;beat b on a;",
        "beat n on a;beat b on c;", "beat b on a when 1 = 2;beat n on a;beat b on a when 2 = 3;beat b on c when 2 = 2;"};
    for (String order : orders) {
      BarkMakers x = Check.taught(head + order);
      Check.same("board of b, " + order, x.beater(1, 3), 1);
      Check.same("force on c, " + order, x.force(1), 5);
    }
  }

  /** "without any not at all" */
  private static void withoutAnyNotAtAll() {
    String head = "bark a raw 9 fibre 1;beater n hand 1 every 1;beater b hand 5 every 1;soak a by 60;";
    String[] orders = {"", "beat n on a;", "beat b on a when 1 = 2;", "beat b on a when 1 = 2;beat n on a;beat b on a when soaked a > 9;"};
    for (String order : orders) {
      BarkMakers x = Check.taught(head + order);
      int others = order.contains("beat n") ? 1 : 0;
      Check.same("board of b, " + order, x.beater(1, 3), -1);
      Check.same("force, " + order, x.force(0), others);
      x.pass(1);
      Check.same("pulp, " + order, x.bark(0, 2), others);
    }
  }

  /** "whose test holds behind step 1" */
  private static void behindSoaking() {
    String head = "bark a raw 9 fibre 1;beater b hand 5 every 1;soak a by 3;";
    Check.same("what is soaked is seen", Check.passed(head + "beat b on a when soaked a = 3;", 1).bark(0, 2), 3);
    Check.same("no more what was there ahead", Check.passed(head + "beat b on a when soaked a = 0;", 1).bark(0, 2), 0);
    Check.same("nor of raw bark", Check.passed(head + "beat b on a when raw a = 6;", 1).bark(0, 2), 3);
  }

  /** "before anybody beats" */
  private static void beforeAnybodyBeats() {
    String head = "bark a raw 60 fibre 1;bark c raw 60 fibre 1;beater b hand 5 every 1;beater n hand 5 every 1;soak a by 60;soak c by 60;beat b on a;";
    Check.same("no pulp is seen yet", Check.passed(head + "beat n on c when board a = 0;", 1).bark(1, 2), 5);
    Check.same("nor soaked bark less", Check.passed(head + "beat n on c when soaked a = 60;", 1).bark(1, 2), 5);
    Check.same("not when it asks for pulp", Check.passed(head + "beat n on c when board a = 5;", 1).bark(1, 2), 0);
    Check.same("but in the next hour", Check.passed(head + "beat n on c when board a = 5;", 2).bark(1, 2), 5);
    BarkMakers x = Check.passed("bark a raw 60 fibre 1;bark c raw 60 fibre 1;" + Check.PAIR + "soak c by 60;beater n hand 5 every 1;beat n on c when sheets a = 0;", 1);
    Check.same("nor a sheet", x.bark(1, 2), 5);
  }

  /** Beaters told as hands and every on one bark: the force in the hour 0. */
  private static void force(int due, int... handsAndEvery) {
    StringBuilder list = new StringBuilder("bark a raw 500 fibre 1;soak a by 60;");
    for (int n = 0; n < handsAndEvery.length; n += 2) {
      list.append("beater b").append(n).append(" hand ").append(handsAndEvery[n]).append(" every ").append(handsAndEvery[n + 1]).append(';');
      list.append("beat b").append(n).append(" on a;");
    }
    BarkMakers x = Check.taught(list.toString());
    Check.same("force of " + list, x.force(0), due);
    x.pass(1);
    Check.same("beaten by " + list, x.bark(0, 2) + 10 * x.count(7), due);
  }

  /** "force is the hands of all who do so there, added; if they are two or more": not of none, nor of one. */
  private static void forceOfOne() {
    force(0);
    force(1, 1, 1);
    force(9, 9, 6);
  }

  /** "it is as many more as they are, if all of them have the same every, otherwise half of the hands alone (cut)" */
  private static void forceOfMany() {
    force(4, 1, 1, 1, 1);
    force(11, 5, 2, 4, 2);
    force(1, 1, 1, 1, 2);
    force(1, 1, 1, 2, 2);
    force(4, 5, 1, 4, 2);
    force(5, 5, 1, 5, 2);
    force(12, 3, 3, 3, 3, 3, 3);
    force(4, 3, 3, 3, 3, 3, 2);
    force(4, 3, 3, 3, 2, 3, 3);
    force(4, 3, 2, 3, 3, 3, 3);
    force(4, 3, 1, 3, 2, 3, 3);
    force(60, 9, 1, 9, 1, 9, 1, 9, 1, 9, 1, 9, 1);
    force(27, 9, 1, 9, 1, 9, 1, 9, 1, 9, 1, 9, 2);
  }

  /** "all who do so there": whoever does not beat in this hour, or beats elsewhere, is none of them. */
  private static void forceOfThoseWhoBeatNow() {
    BarkMakers x = Check.passed("bark a raw 9 fibre 1;bark c raw 9 fibre 1;beater b hand 5 every 2;beater d hand 4 every 2;beater e hand 9 every 3;"
        + "beater f hand 9 every 1;beat b on a;beat d on a;beat e on a;beat f on c;", 2);
    Check.same("those of every 2 in hour 2", x.force(0), 11);
    Check.same("the one elsewhere", x.force(1), 9);
    x.pass(1);
    Check.same("the one of every 3 in hour 3", x.force(0), 9);
    x.pass(3);
    Check.same("all in hour 6", x.force(0), 9);
    x.tune(2, 2);
    Check.same("all in hour 6, tuned", x.force(0), 21);
  }

  /** "As much soaked bark as force / fibre (cut)" */
  private static void forceByFibreIsCut() {
    int[][] handFibreAndPulp = {{8, 9, 0}, {9, 9, 1}, {1, 2, 0}, {5, 3, 1}, {6, 3, 2}, {7, 3, 2}, {9, 1, 9}};
    for (int[] due : handFibreAndPulp) {
      BarkMakers x = Check.passed("bark a raw 500 fibre " + due[1] + ";beater b hand " + due[0] + " every 1;soak a by 60;beat b on a;", 1);
      Check.same("hand " + due[0] + " on fibre " + due[1], x.bark(0, 2), due[2]);
      Check.same("soaked less, hand " + due[0] + " on fibre " + due[1], x.bark(0, 1), 60 - due[2]);
    }
    String two = "bark a raw 500 fibre 9;beater b hand 9 every 1;beater c hand % every 1;soak a by 60;beat b on a;beat c on a;";
    Check.same("17 / 9", Check.passed(two.replace("%", "6"), 1).bark(0, 2), 1);
    Check.same("18 / 9", Check.passed(two.replace("%", "7"), 1).bark(0, 2), 2);
  }

  /** "as far as there is some, becomes pulp" */
  private static void pulpAsFarAsThereIsSome() {
    for (int soaked = 0; soaked <= 7; soaked++) {
      BarkMakers x = Check.passed("bark a raw 60 fibre 1;beater b hand 5 every 1;soak a by " + soaked + " when hour = 0;beat b on a;", 1);
      Check.same("pulp of " + soaked, x.bark(0, 2), Math.min(5, soaked));
      Check.same("soaked left of " + soaked, x.bark(0, 1), soaked - Math.min(5, soaked));
      x.pass(1);
      Check.same("the rest of " + soaked, x.bark(0, 1), 0);
      Check.same("all pulp of " + soaked, x.bark(0, 2), soaked);
    }
  }

  /** "For each whole 10 of pulp ... a sheet is made: 10 pulp are gone" */
  private static void eachWhole10() {
    int[] pulps = {0, 9, 10, 11, 19, 20};
    for (int pulp : pulps) {
      BarkMakers x = Check.passed("bark a raw 500 fibre 1;beater b hand 9 every 1;beater c hand 9 every 1;soak a by " + pulp + ";beat b on a;beat c on a;", 1);
      Check.same("sheets of " + pulp, x.count(7), pulp / 10);
      Check.same("made of " + pulp, x.count(11), pulp / 10);
      Check.same("pulp left of " + pulp, x.bark(0, 2), pulp % 10);
    }
    BarkMakers x = Check.passed("bark a raw 500 fibre 1;beater b hand 9 every 1;soak a by 60;beat b on a;", 1);
    Check.same("9 of the first hour", x.bark(0, 2) + 100 * x.count(7), 9);
    x.pass(1);
    Check.same("18 with those of the second", x.bark(0, 2) + 100 * x.count(7), 108);
  }

  /** "it is fibre + 3 less as many as beat there thick, at least 1" */
  private static void thickAtLeast1() {
    for (int fibre = 1; fibre <= 9; fibre++) {
      StringBuilder list = new StringBuilder("bark a raw 500 fibre " + fibre + ";soak a by 60;");
      for (int beaters = 1; beaters <= 6; beaters++) {
        list.append("beater b").append(beaters).append(" hand 9 every 1;beat b").append(beaters).append(" on a;");
        BarkMakers x = Check.passed(list.toString(), 12);
        Check.same("thick of fibre " + fibre + " by " + beaters, x.sheet(0, 1), Math.max(1, fibre + 3 - beaters));
      }
    }
  }

  /** "and wet by 4", "mouldy by 0 (at first)" */
  private static void wetBy4() {
    BarkMakers x = Check.taught(ONE_SHEET);
    x.setWeather(3);
    x.pass(1);
    sheet("a sheet behind its first hour", x, 0, 4, 1);
  }

  /** "What pulp is left stays on the board, till somebody beats there again." */
  private static void leftPulpStays() {
    BarkMakers x = Check.passed("bark a raw 315 fibre 1;beater b hand 4 every 1;beater c hand 4 every 1;soak a by 60;"
        + "beat b on a when hour < 32 or hour > 40;beat c on a when hour < 32;", 32);
    Check.same("pulp left", x.bark(0, 2), 15);
    Check.same("nothing soaked", x.bark(0, 0) + x.bark(0, 1), 0);
    x.burn(0);
    x.burn(0);
    x.pass(9);
    Check.same("nobody beats, so it stays", x.bark(0, 2), 15);
    Check.same("and no sheet is made", x.count(7), 28);
    x.pass(1);
    Check.same("somebody beats, though nothing is soaked", x.bark(0, 2), 5);
    Check.same("so that a sheet is made", x.count(7), 29);
    Check.same("thick by the one who beats", x.sheet(28, 1), 3);
    x.pass(1);
    Check.same("less than 10 stay", x.bark(0, 2), 5);
  }

  // ---- 3. weather

  /** "it is less wet by 1 with a weather of 0 to 2 (at least 0)" */
  private static void driesAtLeast0() {
    for (int weather = 0; weather <= 2; weather++) {
      BarkMakers x = Check.taught(ONE_SHEET);
      x.setWeather(weather);
      int[] wet = {3, 2, 1, 0, 0, 0};
      for (int due : wet) {
        x.pass(1);
        sheet("behind " + x.count(0) + " hours of " + weather, x, 0, due, 1);
        Check.same("dry sheets behind " + x.count(0) + " hours of " + weather, x.count(8), due == 0 ? 1 : 0);
      }
    }
  }

  /** With a weather of 3 it is as wet as before. */
  private static void staysAsWet() {
    int[] wet = {3, 2, 1, 0};
    for (int hours = 1; hours <= 4; hours++) {
      BarkMakers x = Check.passed(ONE_SHEET, hours);
      x.setWeather(3);
      x.pass(1);
      sheet("dried " + hours + " hours, then 3", x, 0, wet[hours - 1], hours == 1 ? 2 : 1);
    }
  }

  /** "wetter by 1 with 4 or 5 (at most 9)" */
  private static void wetterAtMost9() {
    for (int weather = 4; weather <= 5; weather++) {
      BarkMakers x = Check.taught(ONE_SHEET);
      x.setWeather(weather);
      int[] wet = {5, 6, 7, 8, 9, 9, 9};
      for (int hour = 0; hour < wet.length; hour++) {
        x.pass(1);
        sheet("behind " + (hour + 1) + " hours of " + weather, x, 0, wet[hour], hour + 1);
      }
      x.setWeather(2);
      x.pass(1);
      Check.same("less by 1 from 9", x.sheet(0, 2), 8);
    }
  }

  /** "then, if it is wet by 3 or more ... it is mouldier by 1" */
  private static void mouldierFrom3() {
    BarkMakers x = Check.passed(ONE_SHEET, 1);
    sheet("wet by 3 now", x, 0, 3, 1);
    x.pass(1);
    sheet("wet by 2 now, though 3 before", x, 0, 2, 1);
    x.setWeather(4);
    x.pass(1);
    sheet("wet by 3 now, though 2 before", x, 0, 3, 2);
    x.setWeather(3);
    x.pass(1);
    sheet("wet by 3 still", x, 0, 3, 3);
    x.setWeather(2);
    x.pass(2);
    x.setWeather(4);
    x.pass(1);
    sheet("wet by 2 now, though 1 before", x, 0, 2, 3);
  }

  /** "or the weather is 5, it is mouldier by 1" */
  private static void mouldierWithWeather5() {
    for (int weather = 4; weather <= 5; weather++) {
      BarkMakers x = Check.passed(ONE_SHEET, 4);
      sheet("dry", x, 0, 0, 1);
      x.setWeather(weather);
      x.pass(1);
      sheet("wet by 1 with " + weather, x, 0, 1, weather == 5 ? 2 : 1);
      x.pass(1);
      sheet("wet by 2 with " + weather, x, 0, 2, weather == 5 ? 3 : 1);
      x.pass(1);
      sheet("wet by 3 with " + weather, x, 0, 3, weather == 5 ? 4 : 2);
    }
  }

  /** "mouldier by 1 (at most 9)" */
  private static void mouldyAtMost9() {
    for (int weather = 3; weather <= 5; weather++) {
      BarkMakers x = Check.taught(ONE_SHEET);
      x.setWeather(weather);
      for (int hours = 1; hours <= 12; hours++) {
        x.pass(1);
        Check.same("mouldy behind " + hours + " hours of " + weather, x.sheet(0, 3), Math.min(9, hours));
      }
    }
  }

  /** "Each sheet, also those made in this hour" */
  private static void thoseOfThisHour() {
    int[] wet = {3, 3, 3, 4, 5, 5};
    for (int weather = 0; weather <= 5; weather++) {
      BarkMakers x = Check.taught("bark a raw 20 fibre 1;" + Check.PAIR);
      x.setWeather(weather);
      x.pass(1);
      sheet("in its hour, weather " + weather, x, 0, wet[weather], 1);
      x.pass(1);
      sheet("the next one in its hour, weather " + weather, x, 1, wet[weather], 1);
    }
  }

  // ---- 4. cutting

  /** "if the test holds now (or there is none)", "in the order in which they are told" */
  private static void cutTestHoldsNow() {
    String told = "bark a raw 20 fibre 1;beater b hand 9 every 1;beater c hand 9 every 1;spirit s folds 0 cuts 9 price 1;spirit t folds 0 cuts 9 price 1;";
    String makers = "soak a by 60;beat b on a;beat c on a;";
    String head = told + makers;
    cutBehind4Hours(head + "cut s from a;cut t from a;", 1, 1);
    cutBehind4Hours(head + "cut s from a when 1 = 2;cut t from a;", 0, 1);
    cutBehind4Hours(told + "cut t from a;" + makers, 0, 1);
    cutBehind4Hours(head + "cut s from a;cut t from a when figures s = 1;", 1, 1);
    cutBehind4Hours(head + "cut s from a;cut t from a when figures s = 0;", 1, 0);
    cutBehind4Hours(head + "cut t from a when figures s = 1;cut s from a;", 1, 0);
    cutBehind4Hours(head + "cut s from a;cut t from a when sheets a = 1;", 1, 1);
    cutBehind4Hours(head + "cut s from a;cut t from a when sheets a = 2;", 1, 0);
  }

  private static void cutBehind4Hours(String list, int first, int second) {
    BarkMakers x = Check.passed(list, 4);
    Check.same("figures of s, " + list, x.spirit(0, 3), first);
    Check.same("figures of t, " + list, x.spirit(1, 3), second);
    Check.same("sheets, " + list, x.count(7), 2 - first - second);
  }

  /** "the oldest sheet of the bark that is not wet" */
  private static void cutNotWet() {
    BarkMakers x = Check.passed(ONE_SHEET + "spirit s folds 0 cuts 9 price 1;cut s from a;", 3);
    sheet("wet by 1", x, 0, 1, 1);
    Check.same("not cut", x.count(9), 0);
    x.pass(1);
    Check.same("cut when it is not wet", x.count(9), 1);
    Check.same("the sheet is gone", x.count(7), 0);
  }

  /** "mouldy by less than 5" */
  private static void cutMouldyByLessThan5() {
    for (int hours = 2; hours <= 5; hours++) {
      BarkMakers x = Check.taught(ONE_SHEET + "spirit s folds 0 cuts 30 price 1;cut s from a;");
      x.setWeather(3);
      x.pass(hours);
      x.setWeather(2);
      x.pass(4);
      boolean cut = hours + 1 < 5;
      Check.same("figures, mouldy by " + (hours + 1), x.count(9), cut ? 1 : 0);
      Check.same("sheets, mouldy by " + (hours + 1), x.count(8), cut ? 0 : 1);
      if (cut) {
        Check.same("beauty, mouldy by " + (hours + 1), x.figure(0, 1), 30 - 2 * (hours + 1));
      } else {
        Check.same("mouldy", x.sheet(0, 3), hours + 1);
      }
    }
  }

  /** A sheet of one beater is fibre + 2 thick: is it cut? */
  private static void thick(int folds, int fibre, int due) {
    BarkMakers x = Check.passed("bark a raw 500 fibre " + fibre + ";beater b hand 9 every 1;soak a by 60;beat b on a;spirit s folds " + folds
        + " cuts 9 price 1;cut s from a;", 15);
    Check.same("cut with " + folds + " folds, " + (fibre + 2) + " thick", x.count(12) > 0 ? 1 : 0, due);
  }

  /** "thick by no more than 12 / folds (cut)" */
  private static void cutThickByNoMore() {
    thick(1, 9, 1);
    thick(2, 4, 1);
    thick(2, 5, 0);
    thick(3, 2, 1);
    thick(3, 3, 0);
    thick(4, 1, 1);
    thick(4, 2, 0);
  }

  /** "without folds any will do" */
  private static void cutWithoutFolds() {
    for (int fibre = 1; fibre <= 9; fibre++) {
      thick(0, fibre, 1);
    }
  }

  /** "the oldest sheet of the bark that" would do: not one of another bark, nor an older one that would not. */
  private static void cutTheOldest() {
    BarkMakers x = Check.taught("bark a raw 20 fibre 1;" + Check.PAIR + "spirit s folds 0 cuts 10 price 1;cut s from a;");
    x.setWeather(3);
    x.pass(2);
    x.setWeather(2);
    x.pass(4);
    Check.same("one of two that are dry", x.count(9) * 10 + x.count(7), 11);
    Check.same("the oldest, mouldy by 3", x.figure(0, 1), 4);
    Check.same("the other one is mouldy by 2", x.sheet(0, 3), 2);
    BarkMakers y = Check.taught("bark a raw 20 fibre 1;" + Check.PAIR + "spirit s folds 0 cuts 10 price 1;cut s from a;");
    y.setTourists(0);
    y.setWeather(3);
    y.pass(4);
    y.setWeather(2);
    y.pass(4);
    Check.same("the oldest is too mouldy", y.sheet(0, 3), 5);
    Check.same("so the next one is cut, mouldy by 4", y.figure(0, 1), 2);
    BarkMakers z = Check.passed("bark k raw 500 fibre 1;bark a raw 10 fibre 1;" + Check.PAIR + "soak k by 60;beater d hand 9 every 1;beat d on k;"
        + "spirit s folds 4 cuts 10 price 1;cut s from a;", 12);
    Check.same("one of a is cut", z.bark(1, 4) * 10 + z.count(12), 1);
    Check.same("those of k are left", z.bark(0, 4), 10);
    BarkMakers thin = Check.passed("bark a raw 500 fibre 2;beater b hand 9 every 1;beater c hand 9 every 1;beat b on a;beat c on a when hour > 2;soak a by 60;"
        + "spirit s folds 4 cuts 10 price 1;cut s from a;", 7);
    Check.same("the oldest is too thick", thin.sheet(0, 1), 4);
    Check.same("a younger, thinner one is cut", thin.figure(0, 1), 50 - 3 * 4 - 2);
  }

  /** An order of cut makes one figure an hour, and none without such a sheet. */
  private static void cutOneAnOrder() {
    String head = "bark a raw 20 fibre 1;beater b hand 9 every 1;beater c hand 9 every 1;soak a by 60;beat b on a;beat c on a;spirit s folds 0 cuts 9 price 1;";
    Check.same("one of two", Check.passed(head + "cut s from a;", 4).count(9), 1);
    Check.same("both", Check.passed(head + "cut s from a;", 5).count(9), 2);
    Check.same("both by two orders", Check.passed(head + "cut s from a;cut s from a;", 4).count(9), 2);
    Check.same("no third one", Check.passed(head + "cut s from a;cut s from a;cut s from a;", 7).count(12), 2);
    Check.same("none without sheets", Check.passed("bark a raw 20 fibre 1;spirit s folds 0 cuts 9 price 1;cut s from a;", 20).count(12), 0);
  }

  /** "its beauty is cuts * (folds + 1) - thick * folds - 2 * mouldy, at least 0": of a sheet 2 thick, mouldy by 1. */
  private static void beautyAtLeast0() {
    int[][] foldsCutsAndBeauty = {{0, 1, 0}, {0, 2, 0}, {0, 3, 1}, {0, 30, 28}, {1, 1, 0}, {1, 2, 0}, {1, 3, 2}, {4, 1, 0}, {4, 2, 0}, {4, 3, 5}, {4, 30, 140}};
    for (int[] due : foldsCutsAndBeauty) {
      BarkMakers x = Check.passed(ONE_SHEET + "spirit s folds " + due[0] + " cuts " + due[1] + " price 1;cut s from a;", 4);
      Check.same("beauty with " + due[0] + " folds, " + due[1] + " cuts", x.figure(0, 1), due[2]);
    }
  }

  // ---- 5. tourists

  /** "Tourists, in hours that have the remainder 7 by 8" */
  private static void hoursOfTourists() {
    BarkMakers x = Check.taught(SHEETS + "spirit s folds 0 cuts 1 price 5;cut s from a;");
    x.setTourists(1);
    for (int hour = 0; hour <= 40; hour++) {
      Check.same("coins of hour " + hour, x.pass(1), hour % 8 == 7 ? 5 : 0);
    }
    Check.same("sold in the hours 7, 15, 23, 31 and 39", x.count(13), 5);
  }

  /** "one after the other, as many as there are, each buys the figure": five figures there are in the hour 7. */
  private static void asManyTourists() {
    int[] many = {0, 1, 4, 5, 6, 20};
    for (int tourists : many) {
      BarkMakers x = Check.taught(SHEETS + "spirit s folds 0 cuts 1 price 9;cut s from a;");
      x.setTourists(tourists);
      int sold = Math.min(5, tourists);
      Check.same("coins by " + tourists, x.pass(8), 9 * sold);
      Check.same("sold to " + tourists, x.count(13), sold);
      Check.same("sold of the spirit to " + tourists, x.spirit(0, 4), sold);
      Check.same("left by " + tourists, x.count(9), 5 - sold);
    }
    BarkMakers none = Check.taught("spirit s folds 0 cuts 1 price 9;");
    none.setTourists(20);
    Check.same("coins without figures", none.pass(96), 0);
    Check.same("sold without figures", none.count(13), 0);
  }

  /** "the figure for which the most is paid, of several the oldest one" */
  private static void mostIsPaid() {
    int[] prices = {5, 7, 7, 5};
    int[][] left = {{0, 1, 2, 3}, {0, 2, 3}, {0, 3}, {3}, {}};
    int[] coins = {0, 7, 14, 19, 24};
    for (int tourists = 0; tourists <= 4; tourists++) {
      BarkMakers x = Check.taught(figures(prices));
      x.setTourists(tourists);
      Check.same("coins by " + tourists, x.pass(8), coins[tourists]);
      spirits(x, left[tourists]);
    }
    BarkMakers same = Check.taught(figures(6, 6, 6, 6));
    same.setTourists(1);
    same.pass(8);
    spirits(same, 1, 2, 3);
  }

  /** "the price of its spirit and a quarter (cut) of its beauty" */
  private static void quarterOfBeauty() {
    int[] beauties = {0, 3, 4, 7, 8};
    for (int beauty : beauties) {
      BarkMakers x = Check.passed(ONE_SHEET + "spirit s folds 0 cuts " + (beauty + 2) + " price 9;cut s from a;", 7);
      Check.same("beauty", x.figure(0, 1), beauty);
      Check.same("what is paid for beauty " + beauty, x.figure(0, 2), 9 + beauty / 4);
      Check.same("coins for beauty " + beauty, x.pass(1), 9 + beauty / 4);
    }
    // 10 by its price, against 9 and a quarter of 7: cut, that is less.
    BarkMakers x = Check.taught(SHEETS + "spirit s folds 0 cuts 9 price 9;spirit t folds 0 cuts 2 price 11;cut s from a when hour = 3;cut t from a when hour = 4;");
    x.setTourists(1);
    Check.same("the quarter is cut ahead of it", x.pass(8), 11);
    Check.same("s is left", x.spirit(0, 3), 1);
  }

  /** "The hour is 1 greater." */
  private static void hourIs1Greater() {
    BarkMakers x = new BarkMakers();
    x.pass(1);
    Check.same("behind one hour", x.count(0), 1);
    x.pass(96);
    Check.same("behind 97 hours", x.count(0), 97);
    BarkMakers y = Check.taught(SHEETS + "spirit s folds 0 cuts 1 price 5;cut s from a when hour = 7;");
    Check.same("cutting and tourists are in the same hour", y.pass(8), 5);
  }

  // ---- tests and sums

  /** "In tests and sums hour is the hour, coins the coins, weather the weather, raw, soaked and board what there is of a bark ..." */
  private static void valuesOfSums() {
    String[] sums = {"hour", "coins", "weather", "raw a / 10", "soaked a", "board a", "sheets a", "sheets k", "figures s", "figures t"};
    int[] due = {11, 5, 1, 37, 53, 7, 3, 0, 2, 1};
    for (int n = 0; n < sums.length; n++) {
      BarkMakers x = Check.taught("bark k raw 500 fibre 1;bark a raw 500 fibre 1;beater b hand 7 every 1;spirit s folds 0 cuts 1 price 5;spirit t folds 0 cuts 1 price 9;"
          + "soak k by " + sums[n] + " when hour = 11;soak a by 60;beat b on a;cut s from a when hour = 4 or hour = 8 or hour = 9;cut t from a when hour = 10;");
      x.setWeather(1);
      x.pass(11);
      int[] told = {x.count(0), x.count(10), x.count(1), x.bark(1, 0) / 10, x.bark(1, 1), x.bark(1, 2), x.bark(1, 4), x.bark(0, 4), x.spirit(0, 3), x.spirit(1, 3)};
      Check.same(sums[n] + " as it is told", told[n], due[n]);
      x.pass(1);
      Check.same(sums[n] + " in a sum", x.bark(0, 1), due[n]);
    }
  }

  /** "Both sides of and and or are reckoned; and binds more than or, not more than and." */
  private static void bothSidesAndBinding() {
    String[] hold = {"1 = 1 or 1 / 0 = 1", "1 / 0 = 0 and 0 / 0 = 0", "1 = 1 or 1 = 1 and 1 = 2", "1 = 2 and 1 = 1 or 1 = 1", "not 1 = 1 or 1 = 1", "not 1 = 2 and 1 = 1"};
    String[] fail = {"1 = 2 and 1 / 0 = 0", "1 = 2 or 1 / 0 = 1", "[1 = 1 or 1 = 1] and 1 = 2", "1 = 2 and [1 = 1 or 1 = 1]", "not [1 = 1 or 1 = 1]", "not 1 = 2 and 1 = 2", "not 1 = 1 and 1 = 2"};
    for (String test : hold) {
      Check.same("when " + test, Check.passed("bark a raw 1 fibre 1;soak a by 1 when " + test + ";", 1).bark(0, 1), 1);
    }
    for (String test : fail) {
      Check.same("when " + test, Check.passed("bark a raw 1 fibre 1;soak a by 1 when " + test + ";", 1).bark(0, 1), 0);
    }
  }
}
