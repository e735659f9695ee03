import java.util.ArrayList;
import java.util.List;

/** All promises: the program and a second one answer the same calls, on lists and by hands that are shuffled, always the same ones. */
public final class SecondMakersTest {
  private static final int OBJECTS = 400;
  private static final int CALLS = 150;
  private static final int[] ODD = {Integer.MIN_VALUE, -1, 0, 1, 7, 73, 97, 121, 501, 2001, Integer.MAX_VALUE};

  private final BarkMakers makers = new BarkMakers();
  private final SecondMakers second = new SecondMakers();
  private final StringBuilder told = new StringBuilder();
  private final Shuffle shuffle;

  private SecondMakersTest(int number) {
    shuffle = new Shuffle(number);
  }

  public static void main(String[] args) {
    int objects = args.length > 0 ? Integer.parseInt(args[0]) : OBJECTS;
    int from = args.length > 1 ? Integer.parseInt(args[1]) : 0;
    int differing = 0;
    for (int number = from; number < from + objects && differing < 5; number++) {
      differing += new SecondMakersTest(number).differs() ? 1 : 0;
    }
    Check.same("objects that differ from the second program", differing, 0);
    Check.finish();
  }

  private interface Call {
    Object answer();
  }

  /** The answer of a call, or what it throws. */
  private static Object answer(Call call) {
    try {
      return call.answer();
    } catch (RuntimeException thrown) {
      return thrown.getClass();
    }
  }

  private boolean same(String what, Call one, Call other) {
    Object got = answer(one);
    Object due = answer(other);
    told.append(what).append(" -> ").append(due).append('\n');
    if (!got.equals(due)) {
      System.out.println(told + "but the program answers " + got);
    }
    return got.equals(due);
  }

  private boolean differs() {
    boolean same = true;
    for (int call = 0; call < CALLS && same; call++) {
      same = step(call) && same("digest()", () -> makers.digest(), () -> second.digest());
    }
    return !same;
  }

  private boolean step(int call) {
    if (call % 50 == 0) {
      return write(Lists.right(shuffle));
    }
    return call % 25 == 24 ? write(padded(Lists.wrong(shuffle))) : call();
  }

  /** Now and then about as long as the tape may be. */
  private String padded(String list) {
    return list + " ".repeat(shuffle.oneIn(9) ? Math.max(0, 1975 + shuffle.below(50) - list.length()) : 0);
  }

  private boolean write(String list) {
    boolean same = same("trim(0)", () -> makers.trim(0), () -> second.trim(0));
    for (int at = 0; at < list.length() && same; at += 20) {
      int from = at;
      same = same("feed [" + list.substring(at, Math.min(at + 20, list.length())) + "]",
          () -> makers.feed(four(list, from), four(list, from + 4), four(list, from + 8), four(list, from + 12), four(list, from + 16)),
          () -> second.feed(four(list, from), four(list, from + 4), four(list, from + 8), four(list, from + 12), four(list, from + 16)));
    }
    return same && same("trim(" + list.length() + ")", () -> makers.trim(list.length()), () -> second.trim(list.length()))
        && same("teach()", () -> makers.teach(), () -> second.teach())
        && same("errorAt()", () -> makers.errorAt(), () -> second.errorAt());
  }

  private static int four(String text, int at) {
    int number = 0;
    for (int i = at; i < at + 4; i++) {
      number = number * 256 + (i < text.length() ? text.charAt(i) : ' ');
    }
    return number;
  }

  /** Mostly from least to most, now and then anything. */
  private int number(int least, int most) {
    if (shuffle.oneIn(30)) {
      return shuffle.oneIn(2) ? most + 1 : ODD[shuffle.below(ODD.length)];
    }
    return least + shuffle.below(Math.max(1, most - least + 1));
  }

  private boolean call() {
    int bark = number(0, second.count(3) - 1);
    int beater = number(0, second.count(4) - 1);
    int spirit = number(0, second.count(5) - 1);
    int sheet = number(0, second.count(7) - 1);
    int figure = number(0, second.count(9) - 1);
    int what = number(0, shuffle.below(5));
    int hours = number(1, shuffle.oneIn(2) ? 72 : 96);
    switch (shuffle.below(33)) {
      case 0: return same("errorAt()", () -> makers.errorAt(), () -> second.errorAt());
      case 1: int any = number(0, 14); return same("count(" + any + ")", () -> makers.count(any), () -> second.count(any));
      case 2: return same("bark(" + bark + ", " + what + ")", () -> makers.bark(bark, what), () -> second.bark(bark, what));
      case 3: return same("beater(" + beater + ", " + what + ")", () -> makers.beater(beater, what), () -> second.beater(beater, what));
      case 4: return same("spirit(" + spirit + ", " + what + ")", () -> makers.spirit(spirit, what), () -> second.spirit(spirit, what));
      case 5: return same("sheet(" + sheet + ", " + what + ")", () -> makers.sheet(sheet, what), () -> second.sheet(sheet, what));
      case 6: return same("figure(" + figure + ", " + what + ")", () -> makers.figure(figure, what), () -> second.figure(figure, what));
      case 7: return same("force(" + bark + ")", () -> makers.force(bark), () -> second.force(bark));
      case 8:
      case 9: return setWeather(shuffle.oneIn(3) ? number(0, 5) : shuffle.below(4));
      case 10: int tourists = number(0, 20); return same("setTourists(" + tourists + ")", () -> makers.setTourists(tourists), () -> second.setTourists(tourists));
      case 11: int every = number(1, 6); return same("tune(" + beater + ", " + every + ")", () -> makers.tune(beater, every), () -> second.tune(beater, every));
      case 12: return same("burn(" + sheet + ")", () -> makers.burn(sheet), () -> second.burn(sheet));
      case 13:
      case 14:
      case 15:
      case 16:
      case 17:
      case 18: int many = number(1, 500); return same("bring(" + bark + ", " + many + ")", () -> makers.bring(bark, many), () -> second.bring(bark, many));
      case 19: return same("until(" + spirit + ")", () -> makers.until(spirit), () -> second.until(spirit));
      case 20:
      case 21: return same("foresee(" + hours + ", " + what + ")", () -> makers.foresee(hours, what), () -> second.foresee(hours, what));
      case 22: return same("advise(" + beater + ")", () -> makers.advise(beater), () -> second.advise(beater));
      case 23: return same("best(" + hours + ")", () -> makers.best(hours), () -> second.best(hours));
      case 24: return same("spare(" + hours + ")", () -> makers.spare(hours), () -> second.spare(hours));
      case 25: return same("mean()", () -> makers.mean(), () -> second.mean());
      case 26: return feed(number(0, 0xffffff));
      case 27: int n = number(0, second.count(14)); return same("trim(" + n + ")", () -> makers.trim(n), () -> second.trim(n));
      default: return pass(shuffle.oneIn(12) ? hours : 1 + shuffle.below(9));
    }
  }

  private boolean setWeather(int weather) {
    return same("setWeather(" + weather + ")", () -> makers.setWeather(weather), () -> second.setWeather(weather));
  }

  private boolean feed(int a) {
    return same("feed(" + a + ", a, ~a, -a, a)", () -> makers.feed(a, a, ~a, -a, a), () -> second.feed(a, a, ~a, -a, a));
  }

  private boolean pass(int hours) {
    return same("pass(" + hours + ")", () -> makers.pass(hours), () -> second.pass(hours));
  }

  /** A row of numbers that looks like none, and is the same in each run. */
  private static final class Shuffle {
    private long state;

    Shuffle(int number) {
      state = number * 7919L + 17;
      below(2);
    }

    int below(int bound) {
      state = state * 6364136223846793005L + 1442695040888963407L;
      return (int) ((state >>> 33) % bound);
    }

    boolean oneIn(int many) {
      return below(many) == 0;
    }

    String of(String... texts) {
      return texts[below(texts.length)];
    }
  }

  /** Shuffled lists: right ones, but for what is rarely told too often, and ones in which something is put that is mostly wrong. */
  private static final class Lists {
    private static final String[] TOKENS = ("bark raw fibre beater hand every spirit folds cuts price soak by beat on cut from when hour soaked board sheets "
        + "figures coins weather not and or min max ( ( ) [ [ ] ; , + - - * / < > = <= >= a b0 zz abcdefghij abcdefghijk a1b2c3d4e5f 0 1 7 12 501 999999 1000000 ? A _ \u00e9 \0").split(" ");

    private final Shuffle shuffle;
    private final List<String> tokens = new ArrayList<>();
    private int barks;
    private int beaters;
    private int spirits;

    private Lists(Shuffle shuffle) {
      this.shuffle = shuffle;
    }

    static String right(Shuffle shuffle) {
      Lists lists = new Lists(shuffle);
      lists.write();
      return lists.joined();
    }

    static String wrong(Shuffle shuffle) {
      Lists lists = new Lists(shuffle);
      lists.write();
      for (int wrong = 1 + shuffle.below(2); wrong > 0; wrong--) {
        lists.putIn();
      }
      return lists.joined();
    }

    private void add(String line) {
      tokens.addAll(List.of(line.trim().split(" +")));
    }

    private void write() {
      int barksAtFirst = 1 + shuffle.below(3);
      for (int n = 0; n < 1 + shuffle.below(6) || n < barksAtFirst; n++) {
        beater();
        spirit();
        if (n < barksAtFirst) {
          bark();
          add("soak b" + n + " by " + (5 + shuffle.below(shuffle.of("2", "6").charAt(0) - '0') * 10) + " ;");
        }
      }
      int orders = shuffle.oneIn(8) ? 20 + shuffle.below(6) : 4 + shuffle.below(14);
      for (int n = barksAtFirst; n < orders && tokens.size() < 390; n++) {
        order();
        thing(shuffle.below(60));
      }
    }

    private void thing(int which) {
      switch (which) {
        case 0:
          bark();
          break;
        case 1:
          beater();
          break;
        case 2:
          spirit();
          break;
        default:
          break;
      }
    }

    private void bark() {
      if (barks < 5 || shuffle.oneIn(60)) {
        add("bark b" + barks++ + " raw " + (shuffle.oneIn(3) ? shuffle.below(30) : 100 + shuffle.below(401)) + " fibre " + (1 + shuffle.below(shuffle.of("2", "4", "9").charAt(0) - '0')) + " ;");
      }
    }

    private void beater() {
      if (beaters < 6 || shuffle.oneIn(60)) {
        add("beater " + shuffle.of("b", "k") + beaters++ + " hand " + (1 + shuffle.below(9)) + " every " + (shuffle.oneIn(2) ? 1 : 1 + shuffle.below(6)) + " ;");
      }
    }

    private void spirit() {
      if (spirits < 6 || shuffle.oneIn(60)) {
        add("spirit b" + spirits++ + " folds " + shuffle.below(5) + " cuts " + (1 + shuffle.below(30)) + " price " + (1 + shuffle.below(99)) + " ;");
      }
    }

    private String name(int told) {
      return "b" + shuffle.below(Math.max(1, shuffle.oneIn(300) ? told + 1 : told));
    }

    /** A beater's name, if it was told: it begins with b or k. */
    private String beaterName() {
      List<String> names = new ArrayList<>();
      for (int at = 1; at < tokens.size(); at++) {
        if (tokens.get(at - 1).equals("beater")) {
          names.add(tokens.get(at));
        }
      }
      return names.get(shuffle.below(names.size()));
    }

    private void order() {
      String line;
      switch (shuffle.below(5)) {
        case 0:
          line = "soak " + name(barks) + " by " + sum(0);
          break;
        case 1:
        case 2:
          line = "beat " + beaterName() + " on " + name(barks);
          break;
        default:
          line = "cut " + name(spirits) + " from " + name(barks);
          break;
      }
      add(line + (shuffle.oneIn(3) ? " when " + test(0) : "") + " ;");
    }

    private String test(int depth) {
      switch (shuffle.below(depth > 7 ? 3 : 10)) {
        case 3: return test(depth + 1) + " and " + test(depth + 1);
        case 4: return test(depth + 1) + " or " + test(depth + 1);
        case 5: return "not " + test(depth + 1);
        case 6: return "[ " + test(depth + 1) + " ]";
        case 7: return "weather " + shuffle.of("<", ">", "=", "<=", ">=") + " " + shuffle.below(4);
        case 8: return "hour - hour / " + (2 + shuffle.below(5)) + " * " + (2 + shuffle.below(5)) + " = " + shuffle.below(3);
        default: return sum(depth) + " " + shuffle.of("<", ">", "=", "<=", ">=") + " " + sum(depth);
      }
    }

    private String sum(int depth) {
      switch (shuffle.below(depth > 7 ? 9 : 18)) {
        case 9: return sum(depth + 1) + " + " + sum(depth + 1);
        case 10: return sum(depth + 1) + " - " + sum(depth + 1);
        case 11: return sum(depth + 1) + " * " + sum(depth + 1);
        case 12: return sum(depth + 1) + " / " + sum(depth + 1);
        case 13: return "- " + sum(depth + 1);
        case 14: return "( " + sum(depth + 1) + " )";
        case 15: return shuffle.of("min", "max") + " ( " + sum(depth + 1) + " , " + sum(depth + 1) + " )";
        default: return value();
      }
    }

    private String value() {
      switch (shuffle.below(10)) {
        case 0: return "hour";
        case 1: return "coins";
        case 2: return "weather";
        case 3: return "raw " + name(barks);
        case 4: return "soaked " + name(barks);
        case 5: return "board " + name(barks);
        case 6: return "sheets " + name(barks);
        case 7: return "figures " + name(spirits);
        default: return "" + (shuffle.oneIn(20) ? 900000 + shuffle.below(100000) : shuffle.below(40));
      }
    }

    /** Puts a token in, in the place of another one, takes one away, or makes something too deep or too long. */
    private void putIn() {
      int at = shuffle.below(tokens.size());
      switch (shuffle.below(12)) {
        case 0:
          tokens.add(at, TOKENS[shuffle.below(TOKENS.length)]);
          break;
        case 1:
          tokens.remove(at);
          break;
        case 2:
          deepen();
          break;
        case 3:
          while (tokens.size() > at + 1) {
            tokens.remove(tokens.size() - 1);
          }
          break;
        case 4:
          add(("soak b0 by 1" + " + 1".repeat(shuffle.below(200))) + " ;");
          break;
        case 5:
          add(shuffle.of("bark b0 raw 1 fibre 1 ;", "beater b0 hand 1 every 1 ;", "spirit b0 folds 1 cuts 1 price 1 ;"));
          break;
        case 6:
        case 7:
        case 8:
          changeNumber(at);
          break;
        default:
          tokens.set(at, TOKENS[shuffle.below(TOKENS.length)]);
          break;
      }
    }

    private void changeNumber(int from) {
      int at = from;
      while (at < tokens.size() - 1 && !tokens.get(at).matches("[0-9]+")) {
        at++;
      }
      tokens.set(at, shuffle.of("0", "1", "4", "5", "6", "7", "9", "10", "30", "31", "99", "100", "500", "501"));
    }

    /** An order whose depth is 7 to 9: some of it in the test, the rest in a sum. */
    private void deepen() {
      int deep = 7 + shuffle.below(3);
      int tests = shuffle.below(6);
      String part = "7";
      for (int n = tests; n < deep; n++) {
        part = shuffle.of("- %", "( % )", "1 + max ( 2 , % )", "3 * ( % )").replace("%", part);
      }
      part = shuffle.of("% > 3", "3 > %").replace("%", part);
      for (int n = 0; n < tests; n++) {
        part = shuffle.of("not %", "[ % ]", "1 = 2 or [ % ]").replace("%", part);
      }
      add("soak b0 by 1 when " + part + " ;");
    }

    private String joined() {
      StringBuilder list = new StringBuilder();
      boolean tight = shuffle.oneIn(2);
      for (String token : tokens) {
        boolean stands = !tight || shuffle.oneIn(6) || isWord(list, list.length() - 1) && token.length() > 0 && isWord(token, 0);
        list.append(stands && list.length() > 0 ? shuffle.of(" ", " ", " ", "\n", "  ", " \n") : "").append(token);
      }
      return list.toString();
    }

    private static boolean isWord(CharSequence text, int at) {
      return at >= 0 && Character.isLetterOrDigit(text.charAt(at));
    }
  }
}
