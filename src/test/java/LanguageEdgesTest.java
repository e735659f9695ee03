import java.util.ArrayList;
import java.util.List;

/** Each sentence of 'Terms' and of '1. The language' that names a boundary case, by a test of its own. */
public final class LanguageEdgesTest {
  private static final String BARK = "bark a raw 9 fibre 1;";
  private static final String MAKERS = BARK + "beater b hand 1 every 1;spirit s folds 0 cuts 1 price 1;";
  private static final String GREATEST = "(65536*32767+65535)";
  private static final String SMALLEST = "(0-65536*32767-65536)";
  private static final String LINE = "bark beater spirit soak beat cut END";
  private static final String VALUE = "NUMBER hour coins weather raw soaked board sheets figures - ( min max";
  private static final String SINGLE = VALUE + " not [";
  private static final String SIGN = "+ - * / ";
  private static final String COMPARE = SIGN + "< > = <= >=";
  /** The tokens of a list, each with all that fit in its place. */
  private static final String[][] STEPS = {
    {"bark", LINE}, {"a", "NAME"}, {"raw", "raw"}, {"9", "NUMBER"}, {"fibre", "fibre"}, {"1", "NUMBER"}, {";", ";"},
    {"beater", LINE}, {"b", "NAME"}, {"hand", "hand"}, {"1", "NUMBER"}, {"every", "every"}, {"1", "NUMBER"}, {";", ";"},
    {"spirit", LINE}, {"s", "NAME"}, {"folds", "folds"}, {"0", "NUMBER"}, {"cuts", "cuts"}, {"1", "NUMBER"}, {"price", "price"}, {"1", "NUMBER"}, {";", ";"},
    {"soak", LINE}, {"a", "NAME"}, {"by", "by"}, {"min", VALUE}, {"(", "("}, {"raw", VALUE}, {"a", "NAME"}, {",", SIGN + ","},
    {"(", VALUE}, {"soaked", VALUE}, {"a", "NAME"}, {"+", SIGN + ")"}, {"1", VALUE}, {")", SIGN + ")"}, {"*", SIGN + ")"}, {"-", VALUE}, {"hour", VALUE}, {")", SIGN + ")"},
    {"/", SIGN + "; when"}, {"max", VALUE}, {"(", "("}, {"1", VALUE}, {"-", SIGN + ","}, {"board", VALUE}, {"a", "NAME"}, {",", SIGN + ","}, {"coins", VALUE}, {")", SIGN + ")"},
    {"when", SIGN + "; when"}, {"[", SINGLE}, {"not", SINGLE}, {"weather", SINGLE}, {"<", COMPARE}, {"sheets", VALUE}, {"a", "NAME"},
    {"and", SIGN + "and or ]"}, {"1", SINGLE}, {"=", COMPARE}, {"figures", VALUE}, {"s", "NAME"}, {"or", SIGN + "and or ]"},
    {"(", SINGLE}, {"1", VALUE}, {")", SIGN + ")"}, {">=", COMPARE}, {"2", VALUE}, {"]", SIGN + "and or ]"}, {"and", "and or ;"},
    {"1", SINGLE}, {"<=", COMPARE}, {"2", VALUE}, {";", SIGN + "and or ;"},
    {"beat", LINE}, {"b", "NAME"}, {"on", "on"}, {"a", "NAME"}, {"when", "when ;"}, {"not", SINGLE}, {"1", SINGLE}, {">", COMPARE}, {"0", VALUE}, {";", SIGN + "and or ;"},
    {"cut", LINE}, {"s", "NAME"}, {"from", "from"}, {"a", "NAME"}, {";", "when ;"},
    {"soak", LINE}, {"a", "NAME"}, {"by", "by"}, {"1", VALUE}, {";", SIGN + "; when"}, {"", LINE},
  };
  private static final String[] KEYWORDS = ("bark raw fibre beater hand every spirit folds cuts price soak by beat on cut from when hour "
      + "soaked board sheets figures coins weather not and or min max").split(" ");

  public static void main(String[] args) {
    sumsWrap();
    differencesWrap();
    turningWraps();
    productsWrap();
    divisionIsCutTowards0();
    divisionBy0();
    smallestByMinus1();
    positionsFrom0();
    hoursFrom0();
    comparisons();
    minAndMax();
    atMost2000Bytes();
    emptyAtFirst();
    emptyBehindTeach();
    blanksAndLineEnds();
    blanksHaveToStandBetween();
    longestToken();
    firstByteOfAWord();
    bytesOfAWord();
    wordOf10Bytes();
    numberOf6Digits();
    symbols();
    keywords();
    otherWordsAreNames();
    sameByAllBytes();
    anyNumberOfLines();
    anyNumberOfTimes();
    whenOrNothing();
    depthOfSums();
    depthOfTests();
    depthOfBoth();
    depthEnds();
    deepestOfLastOrder();
    wrongTokens();
    byteWithoutToken();
    endOfTheTape();
    token401();
    error1AheadOfAll();
    leftToRight();
    smallestNumberAtOneToken();
    error2();
    error3();
    error3ToldAhead();
    error4Names();
    error4Orders();
    error5();
    numberedFrom0();
    Check.finish();
  }

  private static void truth(String test, int due) {
    BarkMakers x = Check.taught("bark a raw 1 fibre 1;spirit s folds 0 cuts 1 price 1;soak a by 1 when " + test + ";");
    x.pass(1);
    Check.same("when " + test, x.bark(0, 1), due);
  }

  private static void holds(String test) {
    truth(test, 1);
  }

  private static void fails(String test) {
    truth(test, 0);
  }

  // ---- Terms

  /** "sums ... of the language wrap around in 32 bits" */
  private static void sumsWrap() {
    holds(GREATEST + " - 1 + 1 > 0");
    holds(GREATEST + " + 1 < 0");
    holds(GREATEST + " + 1 = " + SMALLEST);
    holds(GREATEST + " + " + GREATEST + " = -2");
    holds(SMALLEST + " + " + SMALLEST + " = 0");
  }

  /** "differences ... of the language wrap around in 32 bits" */
  private static void differencesWrap() {
    holds(SMALLEST + " + 1 - 1 < 0");
    holds(SMALLEST + " - 1 > 0");
    holds(SMALLEST + " - 1 = " + GREATEST);
    holds("0 - " + SMALLEST + " = " + SMALLEST);
    holds("0 - " + GREATEST + " = " + SMALLEST + " + 1");
  }

  /** The - in front is a difference too. */
  private static void turningWraps() {
    holds("-" + GREATEST + " = " + SMALLEST + " + 1");
    holds("-" + SMALLEST + " = " + SMALLEST);
    holds("-0 = 0");
  }

  /** "products of the language wrap around in 32 bits" */
  private static void productsWrap() {
    holds("46340 * 46341 > 0");
    holds("46341 * 46341 < 0");
    holds("65536 * 32768 = " + SMALLEST);
    holds("65536 * 65536 = 0");
    holds("999999 * 999999 = 0 - 729379 * 1000 - 967");
    holds(SMALLEST + " * -1 = " + SMALLEST);
  }

  /** "/ is cut towards 0" */
  private static void divisionIsCutTowards0() {
    holds("8 / 2 = 4");
    holds("7 / 2 = 3");
    holds("1 / 2 = 0");
    holds("-8 / 2 = -4");
    holds("-7 / 2 = -3");
    holds("-1 / 2 = 0");
    holds("7 / -2 = -3");
    holds("-7 / -2 = 3");
    holds(SMALLEST + " / " + GREATEST + " = -1");
    holds(GREATEST + " / " + SMALLEST + " = 0");
  }

  /** "/ ... gives 0 with 0 on the right side" */
  private static void divisionBy0() {
    holds("5 / 1 = 5");
    holds("5 / 0 = 0");
    holds("5 / -1 = -5");
    holds("-5 / 0 = 0");
    holds("0 / 0 = 0");
    holds(SMALLEST + " / 0 = 0");
    holds(GREATEST + " / 0 = 0");
    holds("5 / (3 - 3) = 0");
    holds("5 / soaked a = 0");
    holds("5 / (65536 * 65536) = 0");
  }

  /** "-2147483648 / -1 gives -2147483648" */
  private static void smallestByMinus1() {
    holds(SMALLEST + " / -1 = " + SMALLEST);
    holds("(" + SMALLEST + " + 1) / -1 = " + GREATEST);
    holds(SMALLEST + " / -2 = 65536 * 16384");
  }

  /** "Positions of the tape are counted from 0, in bytes." */
  private static void positionsFrom0() {
    Check.error("?", 1, 0);
    Check.error(" ?", 1, 1);
    Check.error("\n\n?", 1, 2);
    Check.error("\u00e9", 1, 0);
    Check.error(";\u00e9", 1, 0);
  }

  /** "Time is told in hours, from 0." */
  private static void hoursFrom0() {
    Check.same("the first hour", new BarkMakers().count(0), 0);
    holds("hour = 0");
    BarkMakers x = Check.taught("bark a raw 9 fibre 1;soak a by 1 when hour = 1;");
    x.pass(1);
    Check.same("the first hour is not 1", x.bark(0, 1), 0);
    x.pass(1);
    Check.same("the second hour is 1", x.bark(0, 1), 1);
  }

  /** "sum ( "<" | ">" | "=" | "<=" | ">=" ) sum": less, the same and more; on the edges of 32 bits, and as a part of a test. */
  private static void comparisons() {
    String[] signs = {"<", ">", "=", "<=", ">="};
    String[][] pairs = {{"1", "2"}, {SMALLEST, GREATEST}, {SMALLEST, SMALLEST + " + 1"}, {"-1", "0"}, {"-2", "-1"}};
    // what holds for each sign of a lesser left side, of the same, and of a greater one
    boolean[][] due = {{true, false, false, true, false}, {false, false, true, true, true}, {false, true, false, false, true}};
    for (int sign = 0; sign < signs.length; sign++) {
      for (String[] pair : pairs) {
        String[] tests = {pair[0] + signs[sign] + pair[1], pair[1] + signs[sign] + pair[1], pair[1] + signs[sign] + pair[0]};
        for (int n = 0; n < tests.length; n++) {
          boolean holds = due[n][sign];
          truth(tests[n], holds ? 1 : 0);
          truth("not " + tests[n], holds ? 0 : 1);
          truth(tests[n] + " and 1 = 1", holds ? 1 : 0);
          truth("1 = 1 and " + tests[n], holds ? 1 : 0);
          truth(tests[n] + " or 1 = 2", holds ? 1 : 0);
          truth("not [1 = 2 or " + tests[n] + "]", holds ? 0 : 1);
        }
      }
    }
  }

  /** "( "min" | "max" ) "(" sum "," sum ")"" */
  private static void minAndMax() {
    holds("min(1, 2) = 1");
    holds("min(2, 1) = 1");
    holds("min(2, 2) = 2");
    holds("max(1, 2) = 2");
    holds("max(2, 1) = 2");
    holds("max(2, 2) = 2");
    holds("min(-1, 0) = -1");
    holds("max(-1, 0) = 0");
    holds("min(" + SMALLEST + ", " + GREATEST + ") = " + SMALLEST);
    holds("max(" + SMALLEST + ", " + GREATEST + ") = " + GREATEST);
    holds("max(min(3, 4), min(5, 2)) * 2 = 6");
  }

  // ---- the tape

  /** "The tape is a row of at most 2000 bytes" */
  private static void atMost2000Bytes() {
    String head = "bark a raw 9 fibre 1";
    String blanks = " ".repeat(1999 - head.length());
    Check.fine(head + blanks + ";");
    Check.errorHere(head + blanks + "^?", 1);
    Check.errorHere(head + blanks + " ^", 1);
    Check.errorHere(" ".repeat(1999) + "^;", 1);
    Check.fine(" ".repeat(2000));
  }

  /** "at first empty" */
  private static void emptyAtFirst() {
    BarkMakers x = new BarkMakers();
    Check.same("bytes at first", x.count(14), 0);
    Check.same("teach of an empty tape", x.teach(), 0);
    Check.same("no error", x.errorAt(), -1);
  }

  /** "teach reads it as a list, and it is empty behind it" */
  private static void emptyBehindTeach() {
    String[] lists = {BARK, BARK + "?", BARK + BARK, "soak a by 1;", BARK + "soak a by 1;".repeat(25), "bark a raw 501 fibre 1;"};
    for (int error = 0; error < lists.length; error++) {
      BarkMakers x = new BarkMakers();
      Check.write(x, lists[error]);
      Check.same("bytes ahead of it", x.count(14), lists[error].length());
      Check.same("teach", x.teach(), error);
      Check.same("bytes behind error " + error, x.count(14), 0);
      Check.same("feed behind error " + error, x.feed(0x20202020, 0x20202020, 0x20202020, 0x20202020, 0x20202020), 20);
      Check.same("only blanks are there behind error " + error, x.teach(), 0);
      Check.same("so that nothing is told behind error " + error, x.count(3), 0);
    }
  }

  // ---- tokens

  /** "Blanks (32) and line ends (10) can stand between tokens, at the beginning and at the end" */
  private static void blanksAndLineEnds() {
    String[] tokens = "bark a raw 9 fibre 1 ; soak a by ( 1 ) when 1 <= 2 ;".split(" ");
    for (String between : new String[] {" ", "\n", "  ", "\n\n", " \n \n"}) {
      Check.fine(String.join(between, tokens));
      Check.fine(between + String.join(between, tokens));
      Check.fine(String.join(between, tokens) + between);
    }
    for (int sign = 0; sign <= 255; sign++) {
      boolean blank = sign == 32 || sign == 10;
      Check.error(" " + (char) sign, blank ? 0 : 1, blank ? -1 : 1);
    }
  }

  /** "and have to stand between two tokens that would otherwise be read as one" */
  private static void blanksHaveToStandBetween() {
    Check.fine("bark a raw 9 fibre 1;");
    Check.errorHere("^barka raw 9 fibre 1;", 1);
    Check.errorHere("bark araw ^9 fibre 1;", 1);
    Check.errorHere("bark a ^raw9 fibre 1;", 1);
    Check.fine("bark a raw 9fibre 1;");
    Check.errorHere("bark a raw 9 fibre 1 ^1;", 1);
    Check.errorHere("bark a raw 9 fibre ^11;", 5);
    Check.fine(BARK + "soak a by 1 when 1<=1;");
    Check.errorHere(BARK + "soak a by 1 when 1< ^=1;", 1);
    Check.fine(BARK + "soak a by 1 when 1>=1;");
    Check.errorHere(BARK + "soak a by 1 when 1>\n^=1;", 1);
    Check.fine(BARK + "soak a by(1)when[not[raw a<1]];");
    Check.errorHere(BARK + "soak a by 1 when ^not1<2;", 1);
  }

  /** "The longest possible token is always read." */
  private static void longestToken() {
    Check.errorHere(BARK + "^soaked a by 1;", 1);
    Check.errorHere(BARK + "soak a ^bya 1;", 1);
    Check.errorHere(MAKERS + "^cuts from a;", 1);
    Check.fine("bark orb raw 1 fibre 1;bark minx raw 1 fibre 1;bark beat2 raw 1 fibre 1;soak minx by raw orb;");
    Check.errorHere(BARK + "soak a by ^9999999;", 1);
    holds("1<=1");
    holds("1>=1");
    fails("2<=1");
    fails("1>=2");
  }

  /** "A word: a letter a to z" */
  private static void firstByteOfAWord() {
    for (int sign = 0; sign <= 255; sign++) {
      boolean letter = sign >= 'a' && sign <= 'z';
      boolean blank = sign == 32 || sign == 10;
      if (!blank) {
        Check.error("bark " + (char) sign + " raw 9 fibre 1;", letter ? 0 : 1, letter ? -1 : 5);
      }
    }
  }

  /** "followed by letters a to z and digits" */
  private static void bytesOfAWord() {
    for (int sign = 0; sign <= 255; sign++) {
      boolean goesOn = sign >= 'a' && sign <= 'z' || sign >= '0' && sign <= '9';
      boolean blank = sign == 32 || sign == 10;
      if (!blank) {
        Check.error("bark q" + (char) sign + " raw 9 fibre 1;", goesOn ? 0 : 1, goesOn ? -1 : 6);
      }
    }
    Check.fine("bark z0 raw 9 fibre 1;bark z9 raw 9 fibre 1;bark z raw 9 fibre 1;bark zz raw 9 fibre 1;bark z00 raw 9 fibre 1;");
  }

  /** "at most 10 bytes", "a word ... that is too long" */
  private static void wordOf10Bytes() {
    for (String name : new String[] {"a", "abcdefghij", "z999999999", "zzzzzzzzzz", "barkbarkba"}) {
      Check.fine("bark " + name + " raw 9 fibre 1;");
    }
    for (String name : new String[] {"abcdefghijk", "z9999999999", "barkbarkbar", "a".repeat(200)}) {
      Check.errorHere("bark ^" + name + " raw 9 fibre 1;", 1);
    }
    Check.fine("bark abcdefghij raw 9 fibre 1;bark abcdefghik raw 9 fibre 1;bark abcdefghi raw 9 fibre 1;bark abcdefghi0 raw 9 fibre 1;");
    Check.fine("bark bbcdefghij raw 9 fibre 1;bark abcdefghij raw 9 fibre 1;bark bbcdefghii raw 9 fibre 1;");
    Check.errorHere("bark abcdefghij raw 9 fibre 1;bark ^abcdefghij raw 9 fibre 1;", 2);
  }

  /** "A number: 1 to 6 digits", "a ... number that is too long" */
  private static void numberOf6Digits() {
    Check.fine("bark a raw 0 fibre 1;");
    Check.fine("bark a raw 000500 fibre 000009;");
    Check.errorHere("bark a raw ^000501 fibre 1;", 5);
    Check.errorHere("bark a raw ^0000500 fibre 1;", 1);
    Check.errorHere("bark a raw ^0000000 fibre 1;", 1);
    Check.fine(BARK + "soak a by 999999;");
    Check.errorHere(BARK + "soak a by ^1000000;", 1);
    Check.errorHere(BARK + "soak a by ^" + "9".repeat(200) + ";", 1);
    holds("999999 > 999998");
    holds("000007 = 7");
  }

  /** "Symbols: ( ) [ ] ; , + - * / < > = <= >=" */
  private static void symbols() {
    Check.fine(BARK + "soak a by (1)+2-3*4/5 when [min(1,2)<3] and 1>2 or 1=2 and 1<=2 or 1>=2;");
    for (String no : new String[] {"<^>", "=^<", "=^>", "=^=", "<=^=", ">=^=", "<^<", ">^>", "^!=", "^&", "^|", "^%"}) {
      Check.errorHere(BARK + "soak a by 1 when 1 " + no + " 2;", 1);
    }
  }

  /** "The keywords are" */
  private static void keywords() {
    Check.same("keywords", KEYWORDS.length, 29);
    for (String keyword : KEYWORDS) {
      Check.errorHere("bark ^" + keyword + " raw 9 fibre 1;", 1);
      Check.errorHere("beater ^" + keyword + " hand 1 every 1;", 1);
      Check.errorHere("spirit ^" + keyword + " folds 0 cuts 1 price 1;", 1);
      Check.errorHere(BARK + "soak a by raw ^" + keyword + ";", 1);
    }
  }

  /** "All other words are names." */
  private static void otherWordsAreNames() {
    for (String keyword : KEYWORDS) {
      Check.fine("bark " + keyword + "x raw 9 fibre 1;soak " + keyword + "x by 1;");
      Check.fine("bark x" + keyword + " raw 9 fibre 1;soak x" + keyword + " by 1;");
      Check.fine("bark " + keyword + "0 raw 9 fibre 1;soak " + keyword + "0 by 1;");
      String shorter = keyword.substring(0, keyword.length() - 1);
      if (!shorter.equals("cut")) {
        Check.fine("bark " + shorter + " raw 9 fibre 1;soak " + shorter + " by 1;");
      }
    }
  }

  /** Two words are the same name only if they have the same bytes, all of them. */
  private static void sameByAllBytes() {
    String signs = "abcdefghijklmnopqrstuvwxyz0123456789";
    List<String> words = new ArrayList<>();
    for (int first = 0; first < 26; first++) {
      words.add(signs.substring(first, first + 1));
      for (int second = 0; second < 36; second++) {
        words.add("" + signs.charAt(first) + signs.charAt(second));
      }
    }
    words.removeAll(List.of(KEYWORDS));
    for (String name : new String[] {"a", "s", "z", "a0", "a9", "dl", "m0", "az", "ba", "z9", "zz"}) {
      for (String other : words) {
        sameName(name, other);
      }
    }
    for (int at = 0; at < 10; at++) {
      for (int sign = 0; sign < (at == 0 ? 26 : 36); sign++) {
        sameName("abcdefghij", "abcdefghij".substring(0, at) + signs.charAt(sign) + "abcdefghij".substring(at + 1));
      }
    }
  }

  private static void sameName(String name, String other) {
    String list = "bark " + name + " raw 9 fibre 1;bark ";
    boolean same = name.equals(other);
    Check.error(list + other + " raw 9 fibre 1;", same ? 2 : 0, same ? list.length() : -1);
  }

  // ---- grammar

  /** "list = { line ";" }", "{ x } any number of times, also none" */
  private static void anyNumberOfLines() {
    Check.fine("");
    Check.fine(BARK);
    Check.fine(BARK + "soak a by 1;");
    Check.fine(BARK + "soak a by 1;".repeat(24));
    Check.errorHere("^;", 1);
    Check.errorHere(BARK + "^;", 1);
    Check.errorHere("bark a raw 9 fibre 1 ^soak a by 1;", 1);
  }

  /** The { } of tests and sums, with none, one and many. */
  private static void anyNumberOfTimes() {
    holds("1 = 1");
    fails("1 = 2");
    holds("1 = 2 or 1 = 1");
    holds("1 = 2" + " or 1 = 2".repeat(20) + " or 1 = 1");
    fails("1 = 2" + " or 1 = 2".repeat(20));
    fails("1 = 1 and 1 = 2");
    holds("1 = 1" + " and 1 = 1".repeat(20));
    fails("1 = 1" + " and 1 = 1".repeat(20) + " and 1 = 2");
    holds("1" + " + 1".repeat(20) + " = 21");
    holds("1" + " - 1".repeat(20) + " = -19");
    holds("1" + " * 2".repeat(20) + " = 1024 * 1024");
    holds("1024 * 1024" + " / 2".repeat(20) + " = 1");
  }

  /** "[ x ] outside of quotation marks means x or nothing": each order with a test, and without. */
  private static void whenOrNothing() {
    for (String order : new String[] {"soak a by 1", "beat b on a", "cut s from a"}) {
      Check.fine(MAKERS + order + ";");
      Check.fine(MAKERS + order + " when 1 = 1;");
      Check.errorHere(MAKERS + order + " when ^;", 1);
      Check.errorHere(MAKERS + order + " when 1 = 1 ^when 1 = 1;", 1);
      Check.errorHere(MAKERS + order + " ^1 = 1;", 1);
    }
    for (String line : new String[] {"bark z raw 9 fibre 1", "beater z hand 1 every 1", "spirit z folds 0 cuts 1 price 1"}) {
      Check.errorHere(MAKERS + line + " ^when 1 = 1;", 1);
    }
  }

  // ---- depth

  /** So many of these around a 1 in a sum; the depth grows at the last sign of what opens. */
  private static void deep(int times, String opens, String closes) {
    String order = BARK + "soak a by ";
    String inside = opens.repeat(Math.min(times, 8));
    if (times <= 8) {
      Check.fine(order + inside + "1" + closes.repeat(times) + ";");
    } else {
      String last = opens.substring(0, opens.length() - 1) + "^" + opens.substring(opens.length() - 1);
      Check.errorHere(order + inside + last + "1" + closes.repeat(times) + ";", 1);
    }
  }

  /** "It may be at most 8": "between a ( and its )", "behind a - in front" */
  private static void depthOfSums() {
    for (int times = 7; times <= 9; times++) {
      deep(times, "(", ")");
      deep(times, "-", "");
      deep(times, "min(", ",2)");
      deep(times, "max(", ",2)");
    }
    String[] seconds = {"min(1,", "max(1,"};
    for (String second : seconds) {
      Check.fine(BARK + "soak a by " + second.repeat(8) + "1" + ")".repeat(8) + ";");
      Check.errorHere(BARK + "soak a by " + second.repeat(8) + "max^(1,1)" + ")".repeat(8) + ";", 1);
      Check.errorHere(BARK + "soak a by " + second.repeat(8) + "^-1" + ")".repeat(8) + ";", 1);
    }
  }

  /** "It may be at most 8": "a [ and its ]", "behind a not for what it turns" */
  private static void depthOfTests() {
    holds("[".repeat(7) + "1=1" + "]".repeat(7));
    holds("[".repeat(8) + "1=1" + "]".repeat(8));
    Check.errorHere(BARK + "soak a by 1 when " + "[".repeat(8) + "^[1=1" + "]".repeat(9) + ";", 1);
    fails("not ".repeat(7) + "1=1");
    holds("not ".repeat(8) + "1=1");
    Check.errorHere(BARK + "soak a by 1 when " + "not ".repeat(8) + "^not 1=1;", 1);
  }

  /** What tests and sums open is counted together. */
  private static void depthOfBoth() {
    Check.fine(BARK + "soak a by 1 when [not [not [not [-1<(1)]]]] or 1=1;");
    Check.errorHere(BARK + "soak a by 1 when [not [not [not [-^-1<(1)]]]];", 1);
    Check.errorHere(BARK + "soak a by 1 when [not [not [not [-1<(^(1))]]]];", 1);
    Check.errorHere(BARK + "soak a by 1 when [not [not [not [not ^(1)<1]]]];", 1);
    Check.errorHere(BARK + "soak a by 1 when [not [not [not [not 1<^-1]]]];", 1);
    Check.errorHere(BARK + "soak a by 1 when not not not not not not not not ^[1<1];", 1);
    Check.errorHere(BARK + "soak a by 1 when [[[[[[[[^not 1<1]]]]]]]];", 1);
  }

  /** "for what it turns", "between": behind that the depth is 1 less again. */
  private static void depthEnds() {
    String parens = "((((((((1))))))))";
    String turns = "--------1";
    Check.fine(BARK + "soak a by " + parens + "+" + parens + " when " + parens + "=" + parens + " and " + parens + "=" + parens + ";");
    Check.fine(BARK + "soak a by " + turns + "-" + turns + "*" + turns + " when " + turns + "<" + parens + ";");
    Check.fine(BARK + "soak a by max(" + parens.substring(1, 16) + "," + parens.substring(1, 16) + ")+" + parens + ";");
    Check.fine(BARK + "soak a by 1 when not not not not not not not not 1=1 and " + parens + "=1 or [[[[[[[[1=1]]]]]]]] and -1<" + parens + ";");
    Check.fine(BARK + "soak a by 1-1-1-1-1-1-1-1-1-1-1-" + parens + ";");
    Check.fine(BARK + "soak a by " + parens + ";soak a by " + parens + ";");
  }

  /** The 24th order, as deep as it may be, with a side that waits for its other one at each depth. */
  private static void deepestOfLastOrder() {
    String sum = "1+1*max(2,".repeat(8) + "7" + ")".repeat(8);
    String test = "1=2 or 1=1 and [".repeat(3) + "1=2 or 1=1 and 15>1+1*max(2," + "1+1*max(2,".repeat(4) + "9" + ")".repeat(5) + "]".repeat(3);
    BarkMakers x = Check.taught(BARK + "bark c raw 60 fibre 1;" + "soak a by 0 when 1=1;".repeat(23) + "soak c by " + sum + " when " + test + ";");
    x.pass(1);
    Check.same("soaked", x.bark(1, 1), 15);
    BarkMakers y = Check.taught(BARK + "bark c raw 60 fibre 1;" + "soak a by 0 when 1=1;".repeat(23) + "soak c by " + sum + " when " + test.replace("15>", "14>") + ";");
    y.pass(1);
    Check.same("not soaked", y.bark(1, 1), 0);
  }

  // ---- errors

  /** "the first token with which the tokens so far are not the beginning of a list": each token at each place. */
  private static void wrongTokens() {
    List<String> all = new ArrayList<>(List.of(KEYWORDS));
    all.addAll(List.of("NAME NUMBER END ( ) [ ] ; , + - * / < > = <= >=".split(" ")));
    StringBuilder head = new StringBuilder();
    for (String[] step : STEPS) {
      List<String> fitting = List.of(step[1].split(" "));
      for (String token : all) {
        String text = token.equals("NAME") ? "q " : token.equals("NUMBER") ? "1 " : token.equals("END") ? "" : token + " ";
        if (!fitting.contains(token)) {
          Check.errorHere(head + "^" + text, 1);
        } else {
          BarkMakers x = new BarkMakers();
          Check.write(x, head + text);
          x.teach();
          Check.same("no error is told at the last token of " + head + text, x.errorAt() == head.length() ? 1 : 0, 0);
        }
      }
      head.append(step[0]).append(' ');
    }
    Check.fine(head.toString());
  }

  /** "a byte with which no token begins", wherever it stands */
  private static void byteWithoutToken() {
    String tokens = "()[];,+-*/<>=";
    for (int sign = 0; sign <= 255; sign++) {
      boolean begins = sign >= 'a' && sign <= 'z' || sign >= '0' && sign <= '9' || tokens.indexOf(sign) >= 0 || sign == 32 || sign == 10;
      if (!begins) {
        Check.errorHere("^" + (char) sign, 1);
        Check.errorHere(BARK + "soak a by ^" + (char) sign + ";", 1);
        Check.errorHere(BARK + "soak a by 1^" + (char) sign + ";", 1);
        Check.errorHere(BARK + "soak a by raw a^" + (char) sign + ";", 1);
        Check.errorHere(BARK + "soak a by 1 when 1<^" + (char) sign + ";", 1);
        Check.errorHere(BARK + "^" + (char) sign, 1);
      }
    }
  }

  /** "the end of the tape (at its length)" */
  private static void endOfTheTape() {
    String[] tokens = (BARK.replace(";", " ;") + " beater b hand 1 every 1 ; spirit s folds 0 cuts 1 price 1 ; "
        + "soak a by max ( raw a , - 2 ) when not [ hour < 1 ] ; beat b on a when 1 = 2 and 2 = 3 ; cut s from a ;").split(" ");
    StringBuilder head = new StringBuilder();
    for (String token : tokens) {
      head.append(token);
      boolean whole = token.equals(";");
      Check.error(head.toString(), whole ? 0 : 1, whole ? -1 : head.length());
      Check.error(head + " \n ", whole ? 0 : 1, whole ? -1 : head.length() + 3);
      head.append(' ');
    }
  }

  /** "the token that would be the 401st (the end of the tape not counted)" */
  private static void token401() {
    // 7 tokens of the bark's line, 3 ahead of the sum, a sum of 2 n + 1 tokens, or 2 n + 2 with a - in front, and the ;
    String head = BARK + "soak a by ";
    String of399 = head + "-1" + "+1".repeat(193) + ";";
    Check.fine(of399);
    Check.errorHere(of399 + "^;", 1);
    Check.errorHere(of399 + "bark^", 1);
    Check.errorHere(of399 + "bark ^a raw 1 fibre 1;", 1);
    String of400 = head + "1" + "+1".repeat(194) + ";";
    Check.fine(of400);
    Check.fine(of400 + " \n");
    for (String more : new String[] {"bark", ";", "?", "abcdefghijk", "1234567", "bark c raw 1 fibre 1;"}) {
      Check.errorHere(of400 + " ^" + more, 1);
    }
    String open400 = head + "-1" + "+1".repeat(194);
    Check.errorHere(open400 + "^;", 1);
    Check.errorHere(open400 + " ^+1;", 1);
    Check.errorHere(open400 + "^", 1);
  }

  /** "Only if there is no error 1, keywords, names and numbers are looked at" */
  private static void error1AheadOfAll() {
    String[] wrong = {BARK + BARK, "soak a by 1;", BARK + "soak a by 1;".repeat(25), "bark a raw 501 fibre 0;"};
    for (int error = 2; error <= 5; error++) {
      Check.same("error " + error + " alone", errorOf(wrong[error - 2]), error);
      Check.errorHere(wrong[error - 2] + "^?", 1);
      Check.errorHere(wrong[error - 2] + "soak^", 1);
      Check.errorHere(wrong[error - 2] + "soak a by " + "1+".repeat(8) + "((((((((^(1)))))))));", 1);
    }
  }

  private static int errorOf(String list) {
    BarkMakers x = new BarkMakers();
    Check.write(x, list);
    return x.teach();
  }

  /** "from left to right, and the first error is told, at its token" */
  private static void leftToRight() {
    String orders = "soak a by 1;".repeat(23);
    Check.errorHere(BARK + "bark ^a raw 501 fibre 0;", 2);
    Check.errorHere(BARK + "bark ^a raw 1 fibre 1;soak z by 1;", 2);
    Check.errorHere(BARK + "bark ^a raw 1 fibre 1;" + orders + "soak a by 1;soak a by 1;", 2);
    Check.errorHere(BARK + "soak ^z by 1;bark a raw 1 fibre 1;", 3);
    Check.errorHere(BARK + "soak ^z by raw y;", 3);
    Check.errorHere(BARK + "soak a by raw ^z when raw y = 1;beater b hand 0 every 1;", 3);
    Check.errorHere(BARK + orders + "soak ^z by 1;soak a by 1;", 3);
    Check.errorHere(BARK + orders + "soak a by 1;^soak z by 1;", 4);
    Check.errorHere(BARK + orders + "soak a by 1;^soak a by 1;soak a by 1;bark a raw 501 fibre 1;", 4);
    Check.errorHere("bark a raw ^501 fibre 0;bark a raw 1 fibre 1;", 5);
    Check.errorHere("bark a raw 1 fibre ^0;soak z by 1;", 5);
    Check.errorHere(BARK + "beater b hand ^0 every 0;" + orders + "soak a by 1;soak a by 1;", 5);
  }

  /** "of errors at one token the one with the smallest number" */
  private static void smallestNumberAtOneToken() {
    StringBuilder barks = new StringBuilder();
    StringBuilder beaters = new StringBuilder();
    StringBuilder spirits = new StringBuilder();
    for (char name = 'a'; name <= 'f'; name++) {
      barks.append(name < 'f' ? "bark " + name + " raw 1 fibre 1;" : "");
      beaters.append("beater ").append(name).append(" hand 1 every 1;");
      spirits.append("spirit ").append(name).append(" folds 0 cuts 1 price 1;");
    }
    Check.errorHere(barks + "bark ^a raw 1 fibre 1;", 2);
    Check.errorHere(barks + "bark ^e raw 1 fibre 1;", 2);
    Check.errorHere(barks + "bark ^f raw 1 fibre 1;", 4);
    Check.errorHere(beaters + "beater ^a hand 1 every 1;", 2);
    Check.errorHere(beaters + "beater ^f hand 1 every 1;", 2);
    Check.errorHere(beaters + "beater ^g hand 1 every 1;", 4);
    Check.errorHere(spirits + "spirit ^a folds 0 cuts 1 price 1;", 2);
    Check.errorHere(spirits + "spirit ^f folds 0 cuts 1 price 1;", 2);
    Check.errorHere(spirits + "spirit ^g folds 0 cuts 1 price 1;", 4);
  }

  /** "Error 2: the name ... is that of one of the same sort told ahead" */
  private static void error2() {
    String[] lines = {"bark n raw 1 fibre 1;", "beater n hand 1 every 1;", "spirit n folds 0 cuts 1 price 1;"};
    Check.fine(lines[0] + lines[1] + lines[2]);
    Check.fine(lines[2] + lines[1] + lines[0]);
    for (String line : lines) {
      int name = line.indexOf(" n ") + 1;
      String again = line.substring(0, name) + "^" + line.substring(name);
      Check.errorHere(line + again, 2);
      Check.errorHere(line + line.replace(" n ", " m ") + again, 2);
      Check.fine(line + line.replace(" n ", " m "));
      Check.fine(line + line.replace(" n ", " nn "));
    }
  }

  /** "Error 3: another name is none of what it has to be": of the sort that is asked for. */
  private static void error3() {
    String told = "bark k raw 1 fibre 1;beater b hand 1 every 1;spirit s folds 0 cuts 1 price 1;";
    String[] ofBarks = {"soak % by 1;", "beat b on %;", "cut s from %;", "soak k by raw %;", "soak k by soaked %;", "soak k by board %;", "soak k by sheets %;",
        "soak k by 1 when raw % = 1;", "beat b on k when 1 = soaked %;", "cut s from k when board % = 1;", "cut s from k when 1 < sheets %;"};
    String[] ofBeaters = {"beat % on k;"};
    String[] ofSpirits = {"cut % from k;", "soak k by figures %;", "beat b on k when figures % = 1;"};
    sorts(told, ofBarks, "k", "b", "s");
    sorts(told, ofBeaters, "b", "k", "s");
    sorts(told, ofSpirits, "s", "k", "b");
  }

  private static void sorts(String told, String[] lines, String right, String... wrong) {
    for (String line : lines) {
      Check.fine(told + line.replace("%", right));
      Check.errorHere(told + line.replace("%", "^n"), 3);
      for (String name : wrong) {
        Check.errorHere(told + line.replace("%", "^" + name), 3);
      }
    }
  }

  /** "told ahead": not told behind it. */
  private static void error3ToldAhead() {
    Check.errorHere("soak ^a by 1;" + BARK, 3);
    Check.errorHere("beater b hand 1 every 1;beat b on ^a;" + BARK, 3);
    Check.errorHere(BARK + "beat ^b on a;beater b hand 1 every 1;", 3);
    Check.errorHere(BARK + "cut ^s from a;spirit s folds 0 cuts 1 price 1;", 3);
    Check.errorHere(BARK + "soak a by raw ^c;bark c raw 1 fibre 1;", 3);
    Check.errorHere(BARK + "soak a by figures ^s;spirit s folds 0 cuts 1 price 1;", 3);
    Check.fine(BARK + "soak a by 1;bark c raw 1 fibre 1;soak c by raw a;");
    BarkMakers x = Check.taught(BARK);
    Check.write(x, "soak a by 1;");
    Check.same("nor in the list that was read ahead", x.teach() * 100 + x.errorAt(), 305);
  }

  /** "Error 4: the name of the 6th bark, of the 7th beater or of the 7th spirit" */
  private static void error4Names() {
    String[] lines = {"bark % raw 1 fibre 1;", "beater % hand 1 every 1;", "spirit % folds 0 cuts 1 price 1;"};
    int[] most = {5, 6, 6};
    for (int sort = 0; sort < 3; sort++) {
      StringBuilder list = new StringBuilder();
      for (int n = 0; n < most[sort]; n++) {
        list.append(lines[sort].replace("%", "n" + n));
        Check.same("told " + (n + 1) + " of sort " + sort, Check.taught(list.toString()).count(3 + sort), n + 1);
      }
      Check.errorHere(list + lines[sort].replace("%", "^n9"), 4);
      Check.fine(list + lines[(sort + 1) % 3].replace("%", "n9") + lines[(sort + 2) % 3].replace("%", "n9"));
    }
  }

  /** "or the soak, beat or cut of the 25th order (of all three together)" */
  private static void error4Orders() {
    String[] orders = {"soak a by 1;", "beat b on a;", "cut s from a;"};
    for (String kind : orders) {
      Check.same("24 of one kind", Check.taught(MAKERS + kind.repeat(24)).count(6), 24);
      for (String last : orders) {
        Check.same("24 of two kinds", Check.taught(MAKERS + kind.repeat(23) + last).count(6), 24);
        Check.errorHere(MAKERS + kind.repeat(24) + "^" + last, 4);
        Check.errorHere(MAKERS + kind.repeat(24) + "^" + last.replace(" a", " n"), 4);
      }
    }
    String mixed = (orders[0] + orders[1] + orders[2]).repeat(8);
    Check.fine(MAKERS + mixed);
    Check.errorHere(MAKERS + mixed + "^soak a by 1;", 4);
    Check.fine(MAKERS + mixed + "bark z raw 1 fibre 1;");
  }

  /** "Error 5: a number is out of its range" */
  private static void error5() {
    range("bark n raw % fibre 1;", 0, 500);
    range("bark n raw 1 fibre %;", 1, 9);
    range("beater n hand % every 1;", 1, 9);
    range("beater n hand 1 every %;", 1, 6);
    range("spirit n folds % cuts 1 price 1;", 0, 4);
    range("spirit n folds 0 cuts % price 1;", 1, 30);
    range("spirit n folds 0 cuts 1 price %;", 1, 99);
    Check.fine(BARK + "soak a by 999999 + 0 when 0 < 999999;");
  }

  private static void range(String line, int least, int most) {
    List<Integer> outside = new ArrayList<>(List.of(most + 1, 999999, 1000 + most));
    if (least > 0) {
      outside.add(least - 1);
    }
    Check.fine(line.replace("%", "" + least));
    Check.fine(line.replace("%", "" + most));
    for (int number : outside) {
      Check.errorHere(line.replace("%", "^" + number), 5);
    }
  }

  /** "Barks, beaters and spirits are numbered from 0 in the order in which they are told" */
  private static void numberedFrom0() {
    BarkMakers x = Check.taught("spirit z folds 3 cuts 1 price 1;bark z raw 7 fibre 1;beater z hand 5 every 1;bark a raw 8 fibre 2;"
        + "spirit a folds 4 cuts 1 price 1;beater a hand 6 every 1;");
    Check.same("raw of bark 0", x.bark(0, 0), 7);
    Check.same("raw of bark 1", x.bark(1, 0), 8);
    Check.same("hand of beater 0", x.beater(0, 0), 5);
    Check.same("hand of beater 1", x.beater(1, 0), 6);
    Check.same("folds of spirit 0", x.spirit(0, 0), 3);
    Check.same("folds of spirit 1", x.spirit(1, 0), 4);
  }
}
