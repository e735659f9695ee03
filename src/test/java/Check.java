/** What the tests share: told lists, looked at answers, and counted failures. */
final class Check {
  /** Two beaters with a force of 10 on fibre 1: a sheet an hour, 2 thick, dry in the third hour behind. */
  static final String PAIR = "beater b hand 4 every 1;beater c hand 4 every 1;soak a by 60;beat b on a;beat c on a;";

  private static int wrong = 0;

  private Check() {
  }

  interface Call {
    void run();
  }

  static void same(String what, long got, long due) {
    if (got != due) {
      wrong++;
      System.out.println(what + ": " + got + ", due is " + due);
    }
  }

  static void same(String what, double got, double due) {
    if (got != due) {
      wrong++;
      System.out.println(what + ": " + got + ", due is " + due);
    }
  }

  /** The call throws just this exception, and changes nothing. */
  static void refuses(String what, BarkMakers makers, Class<? extends RuntimeException> due, Call call) {
    long before = makers.digest();
    int errorBefore = makers.errorAt();
    Class<?> got = null;
    try {
      call.run();
    } catch (RuntimeException thrown) {
      got = thrown.getClass();
    }
    if (got != due) {
      wrong++;
      System.out.println(what + " throws " + got + ", due is " + due);
    }
    same(what + " changes nothing", makers.digest(), before);
    same(what + " leaves errorAt", makers.errorAt(), errorBefore);
  }

  static void refusesIndex(String what, BarkMakers makers, Call call) {
    refuses(what, makers, IndexOutOfBoundsException.class, call);
  }

  static void refusesArgument(String what, BarkMakers makers, Call call) {
    refuses(what, makers, IllegalArgumentException.class, call);
  }

  /** Puts a text behind what the tape holds. */
  static void write(BarkMakers makers, String text) {
    int end = makers.count(14) + text.length();
    for (int at = 0; at < text.length(); at += 20) {
      makers.feed(four(text, at), four(text, at + 4), four(text, at + 8), four(text, at + 12), four(text, at + 16));
    }
    makers.trim(end);
  }

  private static int four(String text, int at) {
    int number = 0;
    for (int i = at; i < at + 4; i++) {
      number = number << 8 | (i < text.length() ? text.charAt(i) & 255 : ' ');
    }
    return number;
  }

  static BarkMakers taught(String list) {
    BarkMakers makers = new BarkMakers();
    write(makers, list);
    same("teach " + list, makers.teach(), 0);
    return makers;
  }

  static BarkMakers passed(String list, int hours) {
    BarkMakers makers = taught(list);
    makers.pass(hours);
    return makers;
  }

  /** The list has this error at this place, counted from 0; 0 and -1 if it has none. */
  static void error(String list, int error, int place) {
    BarkMakers makers = new BarkMakers();
    write(makers, list);
    same("teach [" + list + "]", makers.teach(), error);
    same("errorAt [" + list + "]", makers.errorAt(), place);
  }

  /** The sign ^ stands ahead of the token that is wrong, and is left out of the list. */
  static void errorHere(String marked, int error) {
    int place = marked.indexOf('^');
    error(marked.substring(0, place) + marked.substring(place + 1), error, place);
  }

  static void fine(String list) {
    error(list, 0, -1);
  }

  static void finish() {
    if (wrong != 0) {
      System.out.println(wrong + " answers are not as due");
      System.exit(1);
    }
  }
}
