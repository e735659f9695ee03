/** Promises 1 to 6: a new object, and the language. */
public final class LanguageTest {
  private static final String BARK = "bark a raw 9 fibre 1; ";

  public static void main(String[] args) {
    newObject();
    feed();
    trim();
    teachReplaces();
    teachTheSameAgain();
    teachWithErrorKeeps();
    tokens();
    grammar();
    depth();
    tokenLimit();
    names();
    limits();
    ranges();
    leftToRight();
    count();
    Check.finish();
  }

  private static void newObject() {
    BarkMakers x = new BarkMakers();
    int[] due = {0, 2, 3, 0, 0, 0, 0, 0, 0, 0, 0, 0, 0, 0, 0};
    for (int what = 0; what < due.length; what++) {
      Check.same("new count " + what, x.count(what), due[what]);
    }
    Check.same("new errorAt", x.errorAt(), -1);
    Check.same("new mean", x.mean(), 0.0);
  }

  private static void feed() {
    BarkMakers x = new BarkMakers();
    Check.same("feed", x.feed(0x6261726b, 0x20612072, 0x61772039, 0x20666962, 0x7265203b), 20);
    Check.same("fed, highest byte first", x.teach(), 1);
    Check.same("fed, highest byte first, at", x.errorAt(), 19);
    for (int n = 1; n <= 100; n++) {
      Check.same("feed " + n, x.feed(0x20202020, 0x0a0a0a0a, 0x20202020, 0x20202020, 0x20202020), 20 * n);
    }
    Check.refuses("feed too much", x, IllegalStateException.class, () -> x.feed(1, 2, 3, 4, 5));
    x.trim(1981);
    Check.refuses("feed 19 bytes of room", x, IllegalStateException.class, () -> x.feed(1, 2, 3, 4, 5));
    x.trim(1980);
    Check.same("feed the last 20", x.feed(0x20202020, 0x20202020, 0x20202020, 0x20202020, 0x2020203b), 2000);
    Check.same("a full tape", x.teach(), 1);
    Check.same("a full tape's last byte", x.errorAt(), 1999);
    Check.same("empty behind it", x.count(14), 0);
    Check.error("\u00ff", 1, 0);
    Check.error(" \u0080", 1, 1);
  }

  private static void trim() {
    BarkMakers x = new BarkMakers();
    Check.refusesArgument("trim 1 of 0", x, () -> x.trim(1));
    Check.same("trim 0 of 0", x.trim(0), 0);
    x.feed(0x20202020, 0, 0, 0, 0);
    Check.refusesArgument("trim 21 of 20", x, () -> x.trim(21));
    Check.refusesArgument("trim -1", x, () -> x.trim(-1));
    Check.same("trim 20 of 20", x.trim(20), 20);
    Check.same("trim 4 of 20", x.trim(4), 4);
    Check.same("bytes", x.count(14), 4);
    Check.same("what is cut off is gone", x.teach(), 0);
  }

  private static void teachReplaces() {
    BarkMakers x = Check.taught("bark a raw 500 fibre 1; beater b hand 9 every 1; spirit s folds 0 cuts 4 price 7;"
        + "soak a by 60; beat b on a; cut s from a;");
    x.setWeather(1);
    x.setTourists(2);
    x.tune(0, 1);
    x.pass(20);
    Check.same("some coins", x.count(10) > 0 ? 1 : 0, 1);
    Check.same("some sheets", x.count(7) > 0 ? 1 : 0, 1);
    Check.write(x, "bark a raw 7 fibre 2; spirit s folds 1 cuts 2 price 3;");
    Check.same("teach again", x.teach(), 0);
    int[] due = {20, 1, 2, 1, 0, 1, 0, 0, 0, 0, 0, 0, 0, 0, 0};
    for (int what = 0; what < due.length; what++) {
      Check.same("taught again, count " + what, x.count(what), due[what]);
    }
    Check.same("raw anew", x.bark(0, 0), 7);
    Check.same("soaked anew", x.bark(0, 1), 0);
    Check.same("pulp anew", x.bark(0, 2), 0);
    Check.same("sold of a spirit anew", x.spirit(0, 4), 0);
    Check.same("an empty list", x.teach(), 0);
    Check.same("nothing told", x.count(3), 0);
  }

  /** Nothing of a list that was read ahead counts for the next one. */
  private static void teachTheSameAgain() {
    StringBuilder list = new StringBuilder("bark a raw 0 fibre 1; bark c raw 500 fibre 1;");
    for (char name = 'u'; name <= 'z'; name++) {
      list.append("beater ").append(name).append(" hand 9 every 1;");
      list.append("spirit ").append(name).append(" folds 0 cuts 1 price 1;");
    }
    for (int n = 0; n < 20; n++) {
      list.append("soak c by 2 when 1 < 2;");
    }
    BarkMakers x = Check.taught(list.toString());
    for (int n = 0; n < 5; n++) {
      Check.write(x, list.toString());
      Check.same("teach the same again", x.teach(), 0);
      Check.same("orders of it", x.count(6), 20);
      Check.same("beaters of it", x.count(4), 6);
      x.pass(1);
      Check.same("soaked by 20 orders", x.bark(1, 1), 40);
    }
    x.tune(0, 6);
    Check.write(x, "beater u hand 8 every 5;");
    Check.same("teach one beater", x.teach(), 0);
    Check.same("his hand", x.beater(0, 0), 8);
    Check.same("his hours", x.beater(0, 1), 5);
    Check.write(x, "bark z raw 1 fibre 1; soak z by 1;");
    Check.same("names told in the list ahead are gone", x.teach() * 10 + x.count(4), 0);
    Check.write(x, "beat u on z;");
    Check.same("nor known", x.teach() * 100 + x.errorAt(), 305);
  }

  private static void teachWithErrorKeeps() {
    BarkMakers x = Check.taught("bark a raw 500 fibre 1; beater b hand 9 every 2; soak a by 60; beat b on a;");
    x.tune(0, 3);
    x.pass(9);
    long before = x.digest();
    Check.write(x, "bark z raw 1 fibre 1; bark z raw 2 fibre 2;");
    Check.same("error 2", x.teach(), 2);
    Check.same("error 2 at", x.errorAt(), 27);
    Check.same("all stays, the tape is empty", x.digest(), before);
    Check.same("teach without error", x.teach(), 0);
    Check.same("no error any more", x.errorAt(), -1);
  }

  private static void tokens() {
    Check.fine("");
    Check.fine(" \n \n");
    Check.fine("bark\na  raw\n\n9 fibre 1;");
    Check.fine("bark a raw 9fibre 1;bark b raw 8fibre 2;");
    Check.fine("bark abcdefghij raw 000009 fibre 1;");
    Check.fine("bark a1b2 raw 9 fibre 1;");
    Check.fine(BARK + "soak a by 1 when 1<=2and 2>=1or 1=1;");
    Check.errorHere("bark ^abcdefghijk raw 9 fibre 1;", 1);
    Check.errorHere("bark a raw ^0000009 fibre 1;", 1);
    Check.errorHere("bark a^\traw 9 fibre 1;", 1);
    Check.errorHere("bark a^\rraw 9 fibre 1;", 1);
    Check.errorHere("bark ^A raw 9 fibre 1;", 1);
    Check.errorHere("bark ^1a raw 9 fibre 1;", 1);
    Check.errorHere("^barka raw 9 fibre 1;", 1);
    Check.errorHere("bark a ^raw9 fibre 1;", 1);
    Check.errorHere(BARK + "soak a by 1 when 1 < ^= 2;", 1);
    Check.errorHere(BARK + "soak a by 1 when 1 =^< 2;", 1);
    Check.errorHere(BARK + "soak a by 1 when 1 <=^= 2;", 1);
    Check.errorHere(BARK + "soak a by 1 ^_;", 1);
    Check.errorHere("^\0", 1);
    Check.errorHere(BARK + "^\0", 1);
    Check.errorHere(BARK + " ^\0  ", 1);
    Check.errorHere("bark a raw ^? fibre 1;", 1);
    Check.errorHere(BARK + "soak a by ^?;", 1);
    Check.errorHere(BARK + "soak a by ^\0;", 1);
    Check.errorHere(BARK + "soak a by 1 when 1 < ^A;", 1);
    Check.errorHere(BARK + "soak a by 1 ^{;", 1);
    Check.errorHere(BARK + "soak a by 1 ^`;", 1);
    Check.errorHere(BARK + "soak a by 1 ^:;", 1);
  }

  private static void grammar() {
    Check.errorHere("^;", 1);
    Check.errorHere("^raw a;", 1);
    Check.errorHere("bark ^raw raw 9 fibre 1;", 1);
    Check.errorHere("bark ^max raw 9 fibre 1;", 1);
    Check.errorHere("bark a raw 9 fibre 1^", 1);
    Check.errorHere("bark a raw 9 fibre 1  \n ^", 1);
    Check.errorHere("bark a raw ^- 9 fibre 1;", 1);
    Check.errorHere("bark a ^fibre 1 raw 9;", 1);
    Check.errorHere("beater b hand 1 ^;", 1);
    Check.errorHere("spirit s folds 1 cuts 1 ^when;", 1);
    Check.errorHere(BARK + "soak a ^1;", 1);
    Check.errorHere(BARK + "soak a by ^a;", 1);
    Check.errorHere(BARK + "soak a by raw ^9;", 1);
    Check.errorHere(BARK + "soak a by 1 ^2;", 1);
    Check.errorHere(BARK + "soak a by 1 + ^;", 1);
    Check.errorHere(BARK + "soak a by ^+ 1;", 1);
    Check.errorHere(BARK + "soak a by ^[1];", 1);
    Check.errorHere(BARK + "soak a by max(1^);", 1);
    Check.errorHere(BARK + "soak a by max(1, 2^, 3);", 1);
    Check.errorHere(BARK + "soak a by max ^1;", 1);
    Check.errorHere(BARK + "soak a by ^not 1;", 1);
    Check.errorHere(BARK + "soak a by 1 when ^;", 1);
    Check.errorHere(BARK + "soak a by 1 when 1^;", 1);
    Check.errorHere(BARK + "soak a by 1 when 1 < 2 ^< 3;", 1);
    Check.errorHere(BARK + "soak a by 1 when (1 ^< 2);", 1);
    Check.errorHere(BARK + "soak a by 1 when [1 < 2^;", 1);
    Check.errorHere(BARK + "soak a by 1 when [1^];", 1);
    Check.errorHere(BARK + "soak a by 1 when [1 < 2] ^< 3;", 1);
    Check.errorHere(BARK + "soak a by 1 when not not ^", 1);
    Check.errorHere(BARK + "soak^;", 1);
    Check.errorHere(BARK + "soak a^;", 1);
    Check.errorHere(BARK + "soak a ^when 1 < 2;", 1);
    Check.errorHere(BARK + "soak a by^;", 1);
    Check.errorHere(BARK + "soak a by ^when 1 < 2;", 1);
    Check.errorHere(BARK + "beat^;", 1);
    Check.errorHere(BARK + "beat b^;", 1);
    Check.errorHere(BARK + "beat b ^when 1 < 2;", 1);
    Check.errorHere(BARK + "beat b on^;", 1);
    Check.errorHere(BARK + "cut^;", 1);
    Check.errorHere(BARK + "cut s^;", 1);
    Check.errorHere(BARK + "cut s from ^when 1 < 2;", 1);
    Check.errorHere("bark^;", 1);
    Check.errorHere("bark a^;", 1);
    Check.errorHere("bark a raw 9^;", 1);
    Check.errorHere("bark a raw 9 fibre^;", 1);
    Check.errorHere("spirit s folds 1 cuts 1^;", 1);
    Check.errorHere(BARK + "cut s ^on a;", 1);
    Check.errorHere(BARK + "beat s ^from a;", 1);
  }

  private static void depth() {
    Check.fine(BARK + "soak a by ((((((((1))))))));");
    Check.errorHere(BARK + "soak a by ((((((((^(1)))))))));", 1);
    Check.fine(BARK + "soak a by --------1 - -1;");
    Check.errorHere(BARK + "soak a by --------^-1;", 1);
    Check.fine(BARK + "soak a by 1 when not not not not not not not not 1 < 2;");
    Check.errorHere(BARK + "soak a by 1 when not not not not not not not not ^not 1 < 2;", 1);
    Check.fine(BARK + "soak a by 1 when [[[[[[[[1 < 2]]]]]]]] or [[[[[[[[1 < 2]]]]]]]];");
    Check.errorHere(BARK + "soak a by 1 when [[[[[[[[^[1 < 2]]]]]]]]];", 1);
    Check.errorHere(BARK + "soak a by 1 when [not [not [not [not ^-1 < 2]]]];", 1);
    Check.errorHere(BARK + "soak a by 1 when [not [not [not [not 1 < ^(2)]]]];", 1);
    Check.errorHere(BARK + "soak a by -(-(-(-(max^(1, 2)))));", 1);
    Check.fine(BARK + "soak a by -(-(-(max(-1, (2)))));");
    Check.errorHere(BARK + "soak a by -(-(-(max(-^(1), 2))));", 1);
    Check.errorHere(BARK + "soak a by -(-(-(max(1, -^-2))));", 1);
  }

  private static void tokenLimit() {
    // 7 tokens of the bark's line, 4 of the order's beginning, 388 of the sum; the 400th is behind it.
    StringBuilder list = new StringBuilder("bark a raw 9 fibre 1;soak a by 1");
    for (int n = 0; n < 194; n++) {
      list.append("+1");
    }
    Check.fine(list + "; \n ");
    Check.errorHere(list + ";^soak a by 1;", 1);
    Check.errorHere(list + "; ^;", 1);
    Check.errorHere(list + "+^1;", 1);
    Check.errorHere(list + "+ ^", 1);
    Check.errorHere(list + "; ^?", 1);
  }

  private static void names() {
    Check.fine("bark a raw 9 fibre 1; beater a hand 1 every 1; spirit a folds 0 cuts 1 price 1; beat a on a; cut a from a;");
    Check.errorHere(BARK + "bark ^a raw 9 fibre 1;", 2);
    Check.errorHere("beater a hand 1 every 1; beater ^a hand 1 every 1;", 2);
    Check.errorHere("spirit a folds 0 cuts 1 price 1; spirit ^a folds 0 cuts 1 price 1;", 2);
    Check.errorHere("soak ^a by 1;" + BARK, 3);
    Check.errorHere(BARK + "beat ^a on a;", 3);
    Check.errorHere(BARK + "beater a hand 1 every 1; beat a on ^b;", 3);
    Check.errorHere(BARK + "cut ^a from a;", 3);
    Check.errorHere(BARK + "spirit s folds 0 cuts 1 price 1; cut s from ^s;", 3);
    Check.errorHere(BARK + "soak a by figures ^a;", 3);
    Check.errorHere(BARK + "spirit s folds 0 cuts 1 price 1; soak a by raw ^s;", 3);
    Check.errorHere(BARK + "spirit s folds 0 cuts 1 price 1; soak a by soaked ^s;", 3);
    Check.errorHere(BARK + "spirit s folds 0 cuts 1 price 1; soak a by board ^s;", 3);
    Check.errorHere(BARK + "spirit s folds 0 cuts 1 price 1; soak a by sheets ^s;", 3);
    Check.errorHere(BARK + "soak a by raw a when raw a < board ^ab;", 3);
  }

  private static void limits() {
    String barks = "bark a raw 1 fibre 1;bark b raw 1 fibre 1;bark c raw 1 fibre 1;bark d raw 1 fibre 1;bark e raw 1 fibre 1;";
    Check.fine(barks);
    Check.errorHere(barks + "bark ^f raw 1 fibre 1;", 4);
    Check.errorHere(barks + "bark ^e raw 1 fibre 1;", 2);
    StringBuilder beaters = new StringBuilder();
    StringBuilder spirits = new StringBuilder();
    for (char name = 'a'; name <= 'f'; name++) {
      beaters.append("beater ").append(name).append(" hand 1 every 1;");
      spirits.append("spirit ").append(name).append(" folds 0 cuts 1 price 1;");
    }
    Check.fine(beaters.toString());
    Check.errorHere(beaters + "beater ^g hand 1 every 1;", 4);
    Check.fine(spirits.toString());
    Check.errorHere(spirits + "spirit ^g folds 0 cuts 1 price 1;", 4);
    StringBuilder orders = new StringBuilder(BARK + "beater b hand 1 every 1; spirit s folds 0 cuts 1 price 1;");
    for (int n = 0; n < 8; n++) {
      orders.append("soak a by 1;beat b on a;cut s from a;");
    }
    Check.fine(orders.toString());
    Check.errorHere(orders + "^soak z by 1;", 4);
    Check.errorHere(orders + "^beat z on a;", 4);
    Check.errorHere(orders + "^cut z from a;", 4);
    Check.same("24 orders", Check.taught(orders.toString()).count(6), 24);
  }

  private static void ranges() {
    Check.fine("bark a raw 0 fibre 1; bark b raw 500 fibre 9; beater a hand 1 every 1; beater b hand 9 every 6;"
        + "spirit a folds 0 cuts 1 price 1; spirit b folds 4 cuts 30 price 99; soak a by 999999 when 0 = 0;");
    Check.errorHere("bark a raw ^501 fibre 1;", 5);
    Check.errorHere("bark a raw 1 fibre ^0;", 5);
    Check.errorHere("bark a raw 1 fibre ^10;", 5);
    Check.errorHere("beater a hand ^0 every 1;", 5);
    Check.errorHere("beater a hand ^10 every 1;", 5);
    Check.errorHere("beater a hand 1 every ^0;", 5);
    Check.errorHere("beater a hand 1 every ^7;", 5);
    Check.errorHere("spirit a folds ^5 cuts 1 price 1;", 5);
    Check.errorHere("spirit a folds 1 cuts ^0 price 1;", 5);
    Check.errorHere("spirit a folds 1 cuts ^31 price 1;", 5);
    Check.errorHere("spirit a folds 1 cuts 1 price ^0;", 5);
    Check.errorHere("spirit a folds 1 cuts 1 price ^100;", 5);
  }

  private static void leftToRight() {
    Check.errorHere("bark a raw ^501 fibre 0; bark a raw 1 fibre 1;", 5);
    Check.errorHere("soak ^a by raw b; bark a raw 501 fibre 1;", 3);
    Check.errorHere("bark a raw 501 fibre 0; bark a raw 1 fibre 1^", 1);
    Check.errorHere(BARK + "bark ^a raw 501 fibre 0;", 2);
  }

  private static void count() {
    BarkMakers x = Check.taught("bark a raw 9 fibre 1; beater b hand 1 every 1; beater c hand 1 every 1;"
        + "spirit s folds 0 cuts 1 price 1; spirit t folds 0 cuts 1 price 1; spirit u folds 0 cuts 1 price 1; soak a by 1; soak a by 2;"
        + "beat b on a; cut s from a;");
    Check.same("barks", x.count(3), 1);
    Check.same("beaters", x.count(4), 2);
    Check.same("spirits", x.count(5), 3);
    Check.same("orders", x.count(6), 4);
    Check.refusesIndex("count -1", x, () -> x.count(-1));
    Check.refusesIndex("count 15", x, () -> x.count(15));
  }
}
