/** Promises 13 to 17: setWeather, setTourists, tune, burn and bring. */
public final class HandTest {
  public static void main(String[] args) {
    setWeather();
    setTourists();
    tune();
    burn();
    bring();
    Check.finish();
  }

  private static void setWeather() {
    BarkMakers x = new BarkMakers();
    Check.same("weather at first", x.setWeather(0), 2);
    Check.same("weather before", x.setWeather(5), 0);
    Check.same("weather now", x.count(1), 5);
    Check.refusesArgument("weather -1", x, () -> x.setWeather(-1));
    Check.refusesArgument("weather 6", x, () -> x.setWeather(6));
  }

  private static void setTourists() {
    BarkMakers x = new BarkMakers();
    Check.same("tourists at first", x.setTourists(0), 3);
    Check.same("tourists before", x.setTourists(20), 0);
    Check.same("tourists now", x.count(2), 20);
    Check.refusesArgument("tourists -1", x, () -> x.setTourists(-1));
    Check.refusesArgument("tourists 21", x, () -> x.setTourists(21));
  }

  private static void tune() {
    BarkMakers x = Check.taught("beater b hand 5 every 2; beater c hand 5 every 3;");
    Check.same("tune", x.tune(1, 6), 3);
    Check.same("tune again", x.tune(1, 1), 6);
    Check.same("tuned", x.beater(1, 1), 1);
    Check.same("the other one", x.beater(0, 1), 2);
    Check.refusesIndex("tune -1", x, () -> x.tune(-1, 1));
    Check.refusesIndex("tune 2, and wrongly", x, () -> x.tune(2, 0));
    Check.refusesArgument("tune to 0", x, () -> x.tune(0, 0));
    Check.refusesArgument("tune to 7", x, () -> x.tune(0, 7));
  }

  private static void burn() {
    BarkMakers x = Check.taught("bark a raw 500 fibre 1; bark c raw 500 fibre 2; beater b hand 9 every 1; beater d hand 9 every 1;"
        + "soak a by 60; soak c by 60; beat b on a when hour < 3; beat b on c; beat d on c when hour < 2; beat d on a;");
    x.pass(6);
    int sheets = x.count(7);
    int raw = x.bark(0, 0);
    int pulp = x.bark(0, 2);
    int ofBark = x.bark(x.sheet(1, 0), 4);
    int bark = x.sheet(1, 0);
    int mouldy = x.sheet(1, 3);
    int next = x.sheet(2, 0) * 1000 + x.sheet(2, 1) * 100 + x.sheet(2, 2) * 10 + x.sheet(2, 3);
    int first = x.sheet(0, 3);
    Check.same("burn", x.burn(1), mouldy);
    Check.same("one sheet less", x.count(7), sheets - 1);
    Check.same("one of its bark less", x.bark(bark, 4), ofBark - 1);
    Check.same("the next one moves up", x.sheet(1, 0) * 1000 + x.sheet(1, 1) * 100 + x.sheet(1, 2) * 10 + x.sheet(1, 3), next);
    Check.same("the first one stays", x.sheet(0, 3), first);
    Check.same("its bark does not come back", x.bark(0, 0), raw);
    Check.same("nor as pulp", x.bark(0, 2), pulp);
    Check.same("made in all stays", x.count(11), sheets);
    Check.refusesIndex("burn -1", x, () -> x.burn(-1));
    Check.refusesIndex("burn behind the last", x, () -> x.burn(sheets - 1));
    for (int n = sheets - 2; n >= 0; n--) {
      x.burn(n);
    }
    Check.same("all burnt", x.count(7), 0);
    Check.refusesIndex("burn of none", x, () -> x.burn(0));
  }

  private static void bring() {
    BarkMakers x = Check.taught("bark a raw 0 fibre 1; bark c raw 490 fibre 2;");
    Check.same("bring 1", x.bring(0, 1), 1);
    Check.same("bring 498", x.bring(0, 498), 499);
    Check.same("bring at most 500", x.bring(0, 2), 500);
    Check.same("brought", x.bark(0, 0), 500);
    Check.same("the other one", x.bark(1, 0), 490);
    Check.same("bring 500", x.bring(1, 500), 500);
    Check.refusesIndex("bring -1", x, () -> x.bring(-1, 1));
    Check.refusesIndex("bring 2, and wrongly", x, () -> x.bring(2, 0));
    Check.refusesArgument("bring 0", x, () -> x.bring(0, 0));
    Check.refusesArgument("bring 501", x, () -> x.bring(0, 501));
  }
}
