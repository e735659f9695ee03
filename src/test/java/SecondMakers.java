import java.util.ArrayList;
import java.util.List;
import java.util.regex.Matcher;
import java.util.regex.Pattern;

/**
 * A second program, written from ../shared/DOC.md alone and made in another way: it follows the document's own text of the
 * grammar, and a mountain of lists that is copied whole. SecondMakersTest lets both answer the same calls.
 */
final class SecondMakers {
  private final StringBuilder tape = new StringBuilder();
  private World now = new World();
  private int errorAt = -1;

  // ---- the language

  int feed(int... numbers) {
    if (tape.length() > 1980) {
      throw new IllegalStateException();
    }
    for (int number : numbers) {
      for (int at = 0; at < 4; at++) {
        tape.append((char) (number >> 24 & 0xff));
        number <<= 8;
      }
    }
    return tape.length();
  }

  int trim(int n) {
    argument(0 <= n && n <= tape.length());
    tape.delete(n, tape.length());
    return n;
  }

  int teach() {
    errorAt = -1;
    try {
      now = new Reading(tape.toString()).world(now);
      return 0;
    } catch (Wrong wrong) {
      errorAt = wrong.place;
      return wrong.error;
    } finally {
      tape.setLength(0);
    }
  }

  int errorAt() {
    return errorAt;
  }

  int count(int what) {
    index(what, 15);
    int dry = (int) now.sheets.stream().filter(sheet -> sheet.wet == 0).count();
    return new int[] {now.hour, now.weather, now.tourists, now.barks.size(), now.beaters.size(), now.spirits.size(), now.orders.size(),
        now.sheets.size(), dry, now.figures.size(), now.coins, now.made, now.cut, now.sold, tape.length()}[what];
  }

  // ---- what there is

  int bark(int bark, int what) {
    index(bark, now.barks.size());
    index(what, 5);
    Bark b = now.barks.get(bark);
    return new int[] {b.raw, b.soaked, b.pulp, b.fibre, now.sheetsOf(bark)}[what];
  }

  int beater(int beater, int what) {
    index(beater, now.beaters.size());
    index(what, 4);
    Beater b = now.beaters.get(beater);
    int wait = 0;
    while ((now.hour + wait) % b.every > 0) {
      wait++;
    }
    return new int[] {b.hand, b.every, wait, now.boardOf(beater)}[what];
  }

  int spirit(int spirit, int what) {
    index(spirit, now.spirits.size());
    index(what, 5);
    Spirit s = now.spirits.get(spirit);
    return new int[] {s.folds, s.cuts, s.price, now.figuresOf(spirit), s.sold}[what];
  }

  int sheet(int sheet, int what) {
    index(sheet, now.sheets.size());
    index(what, 4);
    Sheet s = now.sheets.get(sheet);
    return new int[] {s.bark, s.thick, s.wet, s.mouldy}[what];
  }

  int figure(int figure, int what) {
    index(figure, now.figures.size());
    index(what, 3);
    Figure f = now.figures.get(figure);
    return new int[] {f.spirit, f.beauty, now.paidFor(f)}[what];
  }

  int force(int bark) {
    index(bark, now.barks.size());
    return now.force(now.thoseAt(bark, now.boards()));
  }

  // ---- by hand

  int setWeather(int weather) {
    argument(0 <= weather && weather <= 5);
    int before = now.weather;
    now.weather = weather;
    return before;
  }

  int setTourists(int tourists) {
    argument(0 <= tourists && tourists <= 20);
    int before = now.tourists;
    now.tourists = tourists;
    return before;
  }

  int tune(int beater, int every) {
    index(beater, now.beaters.size());
    argument(1 <= every && every <= 6);
    int before = now.beaters.get(beater).every;
    now.beaters.get(beater).every = every;
    return before;
  }

  int burn(int sheet) {
    index(sheet, now.sheets.size());
    return now.sheets.remove(sheet).mouldy;
  }

  int bring(int bark, int many) {
    index(bark, now.barks.size());
    argument(1 <= many && many <= 500);
    Bark b = now.barks.get(bark);
    while (b.raw < 500 && many > 0) {
      b.raw++;
      many--;
    }
    return b.raw;
  }

  // ---- hours

  int pass(int hours) {
    argument(1 <= hours && hours <= 96);
    int before = now.coins;
    now.hours(hours);
    return now.coins - before;
  }

  // ---- what would be

  int until(int spirit) {
    index(spirit, now.spirits.size());
    World thought = new World(now);
    int hours = 0;
    while (thought.figuresOf(spirit) == 0) {
      if (hours == 120) {
        return -1;
      }
      thought.hours(1);
      hours++;
    }
    return hours;
  }

  int foresee(int hours, int what) {
    argument(1 <= hours && hours <= 96);
    index(what, 5);
    World then = new World(now);
    then.hours(hours);
    int mouldy = (int) then.sheets.stream().filter(sheet -> sheet.mouldy >= 5).count();
    return new int[] {then.coins - now.coins, then.sheets.size(), then.figures.size(), then.made - now.made, mouldy}[what];
  }

  int advise(int beater) {
    index(beater, now.beaters.size());
    int[] made = new int[7];
    for (int every = 1; every <= 6; every++) {
      World then = new World(now);
      then.beaters.get(beater).every = every;
      then.hours(48);
      made[every] = then.made - now.made;
    }
    int advised = 6;
    for (int every = 5; every >= 1; every--) {
      advised = made[every] > made[advised] ? every : advised;
    }
    return advised;
  }

  int best(int hours) {
    argument(1 <= hours && hours <= 72);
    int[] coins = new int[6];
    for (int weather = 0; weather <= 5; weather++) {
      World then = new World(now);
      then.weather = weather;
      then.hours(hours);
      coins[weather] = then.coins - now.coins;
    }
    int best = 0;
    for (int weather = 1; weather <= 5; weather++) {
      best = coins[weather] > coins[best] ? weather : best;
    }
    return best;
  }

  /** One is thought away by the orders that are told to this one. */
  int spare(int hours) {
    argument(1 <= hours && hours <= 72);
    World all = new World(now);
    all.hours(hours);
    int spare = -1;
    int most = 0;
    for (int beater = 0; beater < now.beaters.size(); beater++) {
      int away = beater;
      World then = new World(now);
      then.orders.removeIf(order -> order.kind.equals("beat") && order.what == away);
      then.hours(hours);
      if (then.made >= all.made && (spare < 0 || then.made > most)) {
        spare = beater;
        most = then.made;
      }
    }
    return spare;
  }

  double mean() {
    return now.figures.stream().mapToInt(figure -> figure.beauty).average().orElse(0);
  }

  long digest() {
    List<Integer> all = new ArrayList<>();
    for (int what = 0; what <= 14; what++) {
      all.add(count(what));
    }
    for (int bark = 0; bark < now.barks.size(); bark++) {
      all.addAll(List.of(bark(bark, 0), bark(bark, 1), bark(bark, 2), bark(bark, 3), bark(bark, 4), force(bark)));
    }
    for (int beater = 0; beater < now.beaters.size(); beater++) {
      all.addAll(List.of(beater(beater, 0), beater(beater, 1), beater(beater, 2), beater(beater, 3)));
    }
    for (int spirit = 0; spirit < now.spirits.size(); spirit++) {
      all.addAll(List.of(spirit(spirit, 0), spirit(spirit, 1), spirit(spirit, 2), spirit(spirit, 3), spirit(spirit, 4)));
    }
    for (int sheet = 0; sheet < now.sheets.size(); sheet++) {
      all.addAll(List.of(sheet(sheet, 0), sheet(sheet, 1), sheet(sheet, 2), sheet(sheet, 3)));
    }
    for (int figure = 0; figure < now.figures.size(); figure++) {
      all.addAll(List.of(figure(figure, 0), figure(figure, 1), figure(figure, 2)));
    }
    long d = 821;
    for (int x : all) {
      d = d * 31 + x;
    }
    return d;
  }

  private static void index(int index, int size) {
    if (index < 0 || index >= size) {
      throw new IndexOutOfBoundsException();
    }
  }

  private static void argument(boolean right) {
    if (!right) {
      throw new IllegalArgumentException();
    }
  }

  // ---- 2. The mountain

  private static final class Bark {
    private int raw;
    private int soaked;
    private int pulp;
    private int fibre;
  }

  private static final class Beater {
    private int hand;
    private int every;
  }

  private static final class Spirit {
    private int folds;
    private int cuts;
    private int price;
    private int sold;
  }

  private static final class Sheet {
    private int bark;
    private int thick;
    private int wet;
    private int mouldy;
  }

  private static final class Figure {
    private int spirit;
    private int beauty;
  }

  private interface Sum {
    int of(World world);
  }

  private interface Test {
    boolean holds(World world);
  }

  /** what is the bark that is soaked, the beater who beats, or the spirit that is cut; where is a bark, on or from which. */
  private static final class Order {
    private String kind;
    private int what;
    private int where;
    private Sum sum;
    private Test test = world -> true;
  }

  private static final class World {
    private final List<Bark> barks = new ArrayList<>();
    private final List<Beater> beaters = new ArrayList<>();
    private final List<Spirit> spirits = new ArrayList<>();
    private final List<Order> orders = new ArrayList<>();
    private final List<Sheet> sheets = new ArrayList<>();
    private final List<Figure> figures = new ArrayList<>();
    private int hour;
    private int weather = 2;
    private int tourists = 3;
    private int coins;
    private int made;
    private int cut;
    private int sold;

    World() {
    }

    World(World other) {
      other.barks.forEach(bark -> addBark(bark.raw, bark.fibre, bark.soaked, bark.pulp));
      other.beaters.forEach(beater -> addBeater(beater.hand, beater.every));
      other.spirits.forEach(spirit -> addSpirit(spirit.folds, spirit.cuts, spirit.price, spirit.sold));
      orders.addAll(other.orders);
      other.sheets.forEach(sheet -> addSheet(sheet.bark, sheet.thick, sheet.wet, sheet.mouldy));
      other.figures.forEach(figure -> addFigure(figure.spirit, figure.beauty));
      hour = other.hour;
      weather = other.weather;
      tourists = other.tourists;
      coins = other.coins;
      made = other.made;
      cut = other.cut;
      sold = other.sold;
    }

    private void addBark(int raw, int fibre, int soaked, int pulp) {
      Bark bark = new Bark();
      bark.raw = raw;
      bark.fibre = fibre;
      bark.soaked = soaked;
      bark.pulp = pulp;
      barks.add(bark);
    }

    private void addBeater(int hand, int every) {
      Beater beater = new Beater();
      beater.hand = hand;
      beater.every = every;
      beaters.add(beater);
    }

    private void addSpirit(int folds, int cuts, int price, int sold) {
      Spirit spirit = new Spirit();
      spirit.folds = folds;
      spirit.cuts = cuts;
      spirit.price = price;
      spirit.sold = sold;
      spirits.add(spirit);
    }

    private void addSheet(int bark, int thick, int wet, int mouldy) {
      Sheet sheet = new Sheet();
      sheet.bark = bark;
      sheet.thick = thick;
      sheet.wet = wet;
      sheet.mouldy = mouldy;
      sheets.add(sheet);
    }

    private void addFigure(int spirit, int beauty) {
      Figure figure = new Figure();
      figure.spirit = spirit;
      figure.beauty = beauty;
      figures.add(figure);
    }

    int sheetsOf(int bark) {
      return (int) sheets.stream().filter(sheet -> sheet.bark == bark).count();
    }

    int figuresOf(int spirit) {
      return (int) figures.stream().filter(figure -> figure.spirit == spirit).count();
    }

    int boardOf(int beater) {
      if (hour % beaters.get(beater).every > 0) {
        return -1;
      }
      return orders.stream().filter(order -> order.kind.equals("beat") && order.what == beater && order.test.holds(this))
          .map(order -> order.where).findFirst().orElse(-1);
    }

    List<Integer> boards() {
      List<Integer> boards = new ArrayList<>();
      for (int beater = 0; beater < beaters.size(); beater++) {
        boards.add(boardOf(beater));
      }
      return boards;
    }

    List<Beater> thoseAt(int bark, List<Integer> boards) {
      List<Beater> there = new ArrayList<>();
      for (int beater = 0; beater < beaters.size(); beater++) {
        if (boards.get(beater) == bark) {
          there.add(beaters.get(beater));
        }
      }
      return there;
    }

    int force(List<Beater> there) {
      int hands = there.stream().mapToInt(beater -> beater.hand).sum();
      long rhythms = there.stream().mapToInt(beater -> beater.every).distinct().count();
      return there.size() < 2 ? hands : rhythms == 1 ? hands + there.size() : hands / 2;
    }

    int paidFor(Figure figure) {
      return spirits.get(figure.spirit).price + figure.beauty / 4;
    }

    void hours(int hours) {
      for (int n = 0; n < hours; n++) {
        orders.stream().filter(order -> order.kind.equals("soak")).forEach(this::soak);
        List<Integer> boards = boards();
        for (int bark = 0; bark < barks.size(); bark++) {
          beat(bark, thoseAt(bark, boards));
        }
        sheets.forEach(this::weather);
        orders.stream().filter(order -> order.kind.equals("cut")).forEach(this::cut);
        for (int tourist = 0; hour % 8 == 7 && tourist < tourists; tourist++) {
          buy();
        }
        hour++;
      }
    }

    private void soak(Order order) {
      if (order.test.holds(this)) {
        Bark bark = barks.get(order.what);
        for (int left = order.sum.of(this); left > 0 && bark.raw > 0 && bark.soaked < 60; left--) {
          bark.raw--;
          bark.soaked++;
        }
      }
    }

    private void beat(int number, List<Beater> there) {
      if (there.isEmpty()) {
        return;
      }
      Bark bark = barks.get(number);
      for (int left = force(there) / bark.fibre; left > 0 && bark.soaked > 0; left--) {
        bark.soaked--;
        bark.pulp++;
      }
      while (bark.pulp >= 10 && sheets.size() < 30) {
        bark.pulp -= 10;
        int thick = bark.fibre + 3 - there.size();
        addSheet(number, thick < 1 ? 1 : thick, 4, 0);
        made++;
      }
    }

    private void weather(Sheet sheet) {
      if (weather <= 2 && sheet.wet > 0) {
        sheet.wet--;
      }
      if (weather >= 4 && sheet.wet < 9) {
        sheet.wet++;
      }
      if ((sheet.wet >= 3 || weather == 5) && sheet.mouldy < 9) {
        sheet.mouldy++;
      }
    }

    private void cut(Order order) {
      Spirit spirit = spirits.get(order.what);
      if (!order.test.holds(this) || figures.size() == 30) {
        return;
      }
      for (Sheet sheet : sheets) {
        boolean thin = spirit.folds == 0 || sheet.thick <= 12 / spirit.folds;
        if (sheet.bark == order.where && sheet.wet == 0 && sheet.mouldy < 5 && thin) {
          int beauty = spirit.cuts * (spirit.folds + 1) - sheet.thick * spirit.folds - 2 * sheet.mouldy;
          sheets.remove(sheet);
          addFigure(order.what, beauty < 0 ? 0 : beauty);
          cut++;
          return;
        }
      }
    }

    private void buy() {
      Figure dearest = null;
      for (Figure figure : figures) {
        dearest = dearest == null || paidFor(figure) > paidFor(dearest) ? figure : dearest;
      }
      if (dearest != null) {
        coins += paidFor(dearest);
        sold++;
        spirits.get(dearest.spirit).sold++;
        figures.remove(dearest);
      }
    }
  }

  // ---- 1. The language

  private static final class Wrong extends RuntimeException {
    private final int error;
    private final int place;

    Wrong(int error, int place) {
      this.error = error;
      this.place = place;
    }
  }

  /** kind is the keyword or symbol itself, or NAME, NUMBER, END or WRONG. */
  private record Token(String kind, String text, int place) {
  }

  private static final class Reading {
    private static final Pattern TOKEN = Pattern.compile("[ \n]*(?:([a-z][a-z0-9]*)|([0-9]+)|(<=|>=|[()\\[\\];,+\\-*/<>=])|(\\z)|(.))", Pattern.DOTALL);
    private static final List<String> KEYWORDS = List.of(("bark raw fibre beater hand every spirit folds cuts price soak by beat on cut from when hour "
        + "soaked board sheets figures coins weather not and or min max").split(" "));

    private final List<Token> tokens = new ArrayList<>();
    private final List<String> barks = new ArrayList<>();
    private final List<String> beaters = new ArrayList<>();
    private final List<String> spirits = new ArrayList<>();
    private final World told = new World();
    private int next;

    Reading(String tape) {
      Matcher matcher = TOKEN.matcher(tape);
      boolean more = true;
      while (more && matcher.lookingAt()) {
        Token token = token(matcher);
        tokens.add(token);
        matcher.region(matcher.end(), tape.length());
        more = !token.kind.equals("END") && !token.kind.equals("WRONG");
      }
      int wrong = new Grammar().firstWrong(tokens);
      if (wrong >= 0) {
        throw new Wrong(1, tokens.get(wrong).place);
      }
      while (!tokens.get(next).kind.equals("END")) {
        line();
        take();
      }
    }

    private Token token(Matcher matcher) {
      int group = 1;
      while (matcher.group(group) == null) {
        group++;
      }
      String text = matcher.group(group);
      boolean known = KEYWORDS.contains(text);
      boolean tooLong = group == 1 && text.length() > 10 || group == 2 && text.length() > 6;
      String[] kinds = {known ? text : "NAME", "NUMBER", text, "END", "WRONG"};
      boolean wrong = tooLong || group != 4 && tokens.size() == 400;
      return new Token(wrong ? "WRONG" : kinds[group - 1], text, matcher.start(group));
    }

    World world(World before) {
      World world = new World(told);
      world.hour = before.hour;
      world.weather = before.weather;
      world.tourists = before.tourists;
      return world;
    }

    private Token take() {
      return tokens.get(next++);
    }

    private boolean isNext(String kind) {
      return tokens.get(next).kind.equals(kind);
    }

    private boolean takeIf(String kind) {
      boolean found = isNext(kind);
      next += found ? 1 : 0;
      return found;
    }

    private void line() {
      Token first = take();
      switch (first.kind) {
        case "bark" -> {
          tell(barks, 5);
          told.addBark(number(0, 500), number(1, 9), 0, 0);
        }
        case "beater" -> {
          tell(beaters, 6);
          told.addBeater(number(1, 9), number(1, 6));
        }
        case "spirit" -> {
          tell(spirits, 6);
          told.addSpirit(number(0, 4), number(1, 30), number(1, 99), 0);
        }
        default -> order(first);
      }
    }

    private void tell(List<String> names, int most) {
      Token name = take();
      if (names.contains(name.text)) {
        throw new Wrong(2, name.place);
      }
      if (names.size() == most) {
        throw new Wrong(4, name.place);
      }
      names.add(name.text);
    }

    private int number(int least, int most) {
      take();
      Token token = take();
      int number = Integer.parseInt(token.text);
      if (number < least || number > most) {
        throw new Wrong(5, token.place);
      }
      return number;
    }

    private int told(List<String> names) {
      Token name = take();
      if (!names.contains(name.text)) {
        throw new Wrong(3, name.place);
      }
      return names.indexOf(name.text);
    }

    private void order(Token first) {
      if (told.orders.size() == 24) {
        throw new Wrong(4, first.place);
      }
      Order order = new Order();
      order.kind = first.kind;
      if (first.kind.equals("soak")) {
        order.what = told(barks);
        take();
        order.sum = sum();
      } else {
        order.what = told(first.kind.equals("beat") ? beaters : spirits);
        take();
        order.where = told(barks);
      }
      if (takeIf("when")) {
        order.test = test();
      }
      told.orders.add(order);
    }

    private Test test() {
      Test left = both();
      while (takeIf("or")) {
        Test one = left;
        Test other = both();
        left = world -> one.holds(world) || other.holds(world);
      }
      return left;
    }

    private Test both() {
      Test left = single();
      while (takeIf("and")) {
        Test one = left;
        Test other = single();
        left = world -> one.holds(world) && other.holds(world);
      }
      return left;
    }

    private Test single() {
      if (takeIf("not")) {
        Test turned = single();
        return world -> !turned.holds(world);
      }
      if (takeIf("[")) {
        Test inside = test();
        take();
        return inside;
      }
      Sum left = sum();
      String sign = take().kind;
      Sum right = sum();
      return world -> {
        int order = Integer.compare(left.of(world), right.of(world));
        return order == 0 && sign.contains("=") || order < 0 && sign.startsWith("<") || order > 0 && sign.startsWith(">");
      };
    }

    private Sum sum() {
      Sum left = product();
      while (isNext("+") || isNext("-")) {
        int sign = take().kind.equals("+") ? 1 : -1;
        Sum one = left;
        Sum other = product();
        left = world -> (int) ((long) one.of(world) + (long) sign * other.of(world));
      }
      return left;
    }

    private Sum product() {
      Sum left = value();
      while (isNext("*") || isNext("/")) {
        boolean times = take().kind.equals("*");
        Sum one = left;
        Sum other = value();
        left = world -> times ? (int) ((long) one.of(world) * other.of(world)) : quotient(one.of(world), other.of(world));
      }
      return left;
    }

    private static int quotient(long left, long right) {
      return right == 0 ? 0 : (int) (left / right);
    }

    private Sum value() {
      Token token = take();
      switch (token.kind) {
        case "NUMBER":
          int number = Integer.parseInt(token.text);
          return world -> number;
        case "hour":
          return world -> world.hour;
        case "coins":
          return world -> world.coins;
        case "weather":
          return world -> world.weather;
        case "-":
          Sum turned = value();
          return world -> (int) -(long) turned.of(world);
        case "(":
          Sum inside = sum();
          take();
          return inside;
        case "min":
        case "max":
          return lesserOrGreater(token.kind.equals("min"));
        default:
          return thing(token.kind, told(token.kind.equals("figures") ? spirits : barks));
      }
    }

    private Sum lesserOrGreater(boolean lesser) {
      take();
      Sum one = sum();
      take();
      Sum other = sum();
      take();
      return world -> one.of(world) < other.of(world) == lesser ? one.of(world) : other.of(world);
    }

    private static Sum thing(String kind, int number) {
      switch (kind) {
        case "raw":
          return world -> world.barks.get(number).raw;
        case "soaked":
          return world -> world.barks.get(number).soaked;
        case "board":
          return world -> world.barks.get(number).pulp;
        case "sheets":
          return world -> world.sheetsOf(number);
        default:
          return world -> world.figuresOf(number);
      }
    }
  }

  /**
   * The grammar as the document writes it, and all the ways in which the tokens so far can go on by it. Only one sign is added:
   * ! stands behind what a - in front or a not turns, where the depth is 1 less again.
   */
  private static final class Grammar {
    private static final String[] RULES = {
      "list = { line \";\" }",
      "line = \"bark\" name \"raw\" number \"fibre\" number | \"beater\" name \"hand\" number \"every\" number"
          + " | \"spirit\" name \"folds\" number \"cuts\" number \"price\" number | \"soak\" name \"by\" sum [ \"when\" test ]"
          + " | \"beat\" name \"on\" name [ \"when\" test ] | \"cut\" name \"from\" name [ \"when\" test ]",
      "test = both { \"or\" both }",
      "both = single { \"and\" single }",
      "single = \"not\" single ! | \"[\" test \"]\" | sum ( \"<\" | \">\" | \"=\" | \"<=\" | \">=\" ) sum",
      "sum = product { ( \"+\" | \"-\" ) product }",
      "product = value { ( \"*\" | \"/\" ) value }",
      "value = number | \"hour\" | \"coins\" | \"weather\" | ( \"raw\" | \"soaked\" | \"board\" | \"sheets\" ) name | \"figures\" name"
          + " | \"-\" value ! | \"(\" sum \")\" | ( \"min\" | \"max\" ) \"(\" sum \",\" sum \")\"",
    };

    /** What may still have to come: signs of the rules, each with those behind it. */
    private record Way(String[] sign, Way rest, int depth) {
    }

    private List<Way> ways = new ArrayList<>();

    /** The first token that goes no way; -1 if there is none. */
    int firstWrong(List<Token> tokens) {
      open(new Way(new String[] {"list", "\"END\""}, null, 0), 0);
      for (int at = 0; at < tokens.size(); at++) {
        Token token = tokens.get(at);
        List<Way> before = ways;
        ways = new ArrayList<>();
        for (Way way : before) {
          if (way.sign[0].equals("\"" + token.kind + "\"")) {
            go(way, token.kind);
          }
        }
        if (ways.isEmpty()) {
          return at;
        }
        if (token.kind.equals("END")) {
          return -1;
        }
      }
      return tokens.size() - 1;
    }

    /** Goes on behind a token. A - is in front if what it turns ends with the sign !. */
    private void go(Way way, String kind) {
      boolean turns = way.sign.length == 3 && way.sign[2].equals("!");
      boolean opens = kind.equals("(") || kind.equals("[") || turns;
      boolean closes = kind.equals(")") || kind.equals("]");
      int depth = way.depth + (opens ? 1 : 0) - (closes ? 1 : 0);
      if (depth <= 8) {
        open(new Way(tail(way.sign, 1), way.rest, depth), depth);
      }
    }

    private static String[] tail(String[] signs, int from) {
      return java.util.Arrays.copyOfRange(signs, from, signs.length);
    }

    /** Opens what stands first, till a token has to come, or nothing. */
    private void open(Way way, int depth) {
      if (way.sign.length == 0) {
        if (way.rest == null) {
          ways.add(new Way(new String[] {""}, null, depth));
        } else {
          open(way.rest, depth);
        }
        return;
      }
      String first = way.sign[0];
      Way rest = new Way(tail(way.sign, 1), way.rest, depth);
      if (first.startsWith("\"")) {
        ways.add(new Way(way.sign, way.rest, depth));
      } else if (first.equals("!")) {
        open(rest, depth - 1);
      } else if (first.equals("name") || first.equals("number")) {
        ways.add(new Way(replaced(way.sign, "\"" + first.toUpperCase() + "\""), way.rest, depth));
      } else if (first.equals("{") || first.equals("[") || first.equals("(")) {
        openGroup(way, first, depth);
      } else {
        openRule(first, rest, depth);
      }
    }

    private static String[] replaced(String[] signs, String first) {
      String[] copy = signs.clone();
      copy[0] = first;
      return copy;
    }

    private void openGroup(Way way, String bracket, int depth) {
      int end = close(way.sign);
      Way behind = new Way(tail(way.sign, end + 1), way.rest, depth);
      String[] inside = java.util.Arrays.copyOfRange(way.sign, 1, end);
      Way rest = bracket.equals("{") ? way : behind;
      for (String[] alternative : alternatives(inside)) {
        open(new Way(alternative, rest, depth), depth);
      }
      if (!bracket.equals("(")) {
        open(behind, depth);
      }
    }

    private static int close(String[] signs) {
      int depth = 0;
      for (int at = 0; at < signs.length; at++) {
        depth += List.of("{", "[", "(").contains(signs[at]) ? 1 : List.of("}", "]", ")").contains(signs[at]) ? -1 : 0;
        if (depth == 0) {
          return at;
        }
      }
      return signs.length;
    }

    private void openRule(String name, Way rest, int depth) {
      for (String rule : RULES) {
        String[] signs = rule.split(" ");
        if (signs[0].equals(name)) {
          for (String[] alternative : alternatives(tail(signs, 2))) {
            open(new Way(alternative, rest, depth), depth);
          }
        }
      }
    }

    private static List<String[]> alternatives(String[] signs) {
      List<String[]> all = new ArrayList<>();
      int from = 0;
      int depth = 0;
      for (int at = 0; at < signs.length; at++) {
        depth += List.of("{", "[", "(").contains(signs[at]) ? 1 : List.of("}", "]", ")").contains(signs[at]) ? -1 : 0;
        if (depth == 0 && signs[at].equals("|")) {
          all.add(java.util.Arrays.copyOfRange(signs, from, at));
          from = at + 1;
        }
      }
      all.add(tail(signs, from));
      return all;
    }
  }
}
