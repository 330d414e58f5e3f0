/** The bounds that the document names under 'Terms', II: texts, their tokens and counts, what is broken, what is told. */
public final class LawBounds {
  private static final int NONE = -1;
  /** 1,000,000,000, which no single number can be. */
  private static final String MOST = "1000*1000*1000";

  private static void due(String what, int got, int want) {
    Checks.due(what, got, want);
  }

  // ---- laws and the tape ----

  private static void sixLaws() {
    Checks.says("LAWS are TEXTS, 6 at most,");
    BorrowedDays x = new BorrowedDays();
    for (int i = 0; i < 6; i++) {
      due("law " + i, Checks.law(x, "pays " + (10 + i)), i);
      due("laws", x.count(2), i + 1);
    }
    due("the seventh", Checks.law(x, "pays 16"), -5);
    due("laws", x.count(2), 6);
    for (int i = 0; i < 6; i++) {
      x.force(i);
      due("what law " + i + " tells", x.of(0, 0, 0, 2), 10 + i);
    }
    x = new BorrowedDays();
    for (int i = 0; i < 5; i++) Checks.law(x, "bars");
    x.image(0);
    due("the sixth", Checks.law(x, "bars"), 5);
    due("the seventh", Checks.law(x, "bars"), -5);
    x.back(0);
    due("the sixth again, behind back", Checks.law(x, "bars"), 5);
    x = new BorrowedDays();
    for (int i = 0; i < 7; i++) due("a text that can't be takes no room", Checks.law(x, "x"), -6);
    due("the first", Checks.law(x, "bars"), 0);
  }

  private static void eachLawAlone() {
    Checks.says("LAWS are TEXTS, 6 at most,");
    BorrowedDays x = new BorrowedDays();
    for (int i = 0; i < 5; i++) due("50 parts, law " + i, Checks.law(x, "pays " + i + Checks.times(49, "+1")), i);
    due("a text that can't be, of 51 parts", Checks.law(x, "pays 1" + Checks.times(50, "+1")), -6);
    due("a law that tells of no pay", Checks.law(x, "bars if " + Checks.times(8, "(") + "1=1" + Checks.times(8, ")")), 5);
    for (int i = 0; i < 5; i++) {
      x.force(i);
      due("what law " + i + " tells", x.of(0, 0, 0, 2), 49 + i);
      due("law " + i + " bars none", x.of(0, 0, 0, 1), 0);
    }
    x.force(5);
    due("no pay is told", x.of(0, 0, 0, 2), 1);
    due("all are barred", x.of(0, 0, 0, 1), 1);
  }

  private static void fourHundredBytes() {
    Checks.says("on a TAPE of at most 400 bytes;");
    BorrowedDays x = Checks.under("pays 7" + Checks.times(394, " "));
    due("a text of 400 bytes", x.of(0, 0, 0, 2), 7);
    x = Checks.under(Checks.times(394, " ") + "pays 8");
    due("its last bytes", x.of(0, 0, 0, 2), 8);
    Checks.faultAt(Checks.times(399, " ") + "x", 399);
    Checks.faultAt(Checks.times(399, " "), 399);
    Checks.faultAt(Checks.times(400, " "), 400);
    Checks.faultAt("pays 1" + Checks.times(393, " ") + "x", 399);
    Checks.good("bars if " + Checks.times(97, "not ") + "1=1 ");
  }

  private static void noneInForce() {
    Checks.says("one is in FORCE (NONE at first: no CLAUSE).");
    BorrowedDays x = new BorrowedDays();
    Checks.law(x, "pays 5; costs 5; bars; wants");
    due("the law in force", x.count(11), NONE);
    due("pay", x.of(0, 0, 0, 2), 1);
    due("cost", x.chain(0, 1), 1);
    due("barred", x.of(0, 0, 1, 1), 0);
    due("rounds", x.price(NONE), 1);
    x.force(0);
    due("the law in force", x.count(11), 0);
    due("pay", x.of(0, 0, 0, 2), 5);
    due("cost", x.chain(0, 1), 5);
    due("barred", x.of(0, 0, 1, 1), 1);
    due("rounds", x.price(NONE), 51);
  }

  // ---- tokens ----

  private static void rowsOfLetters() {
    Checks.says("TOKENS: longest rows of letters a .. z,");
    Checks.faultAt("barsa", 0);
    Checks.faultAt("barsz", 0);
    Checks.faultAt("bars" + (char) ('a' - 1), 4);
    Checks.faultAt("bars" + (char) ('z' + 1), 4);
    Checks.faultAt("barsA", 4);
    Checks.faultAt("barsZ", 4);
    Checks.faultAt("Bars", 0);
    Checks.faultAt("ba rs", 0);
    Checks.faultAt("barsif 1=1", 0);
    Checks.faultAt("bars if not1=1 andnot 1=1", 15);
    Checks.faultAt("pays dayday", 5);
    Checks.faultAt("pays weekdays", 5);
    Checks.good("bars if not1=1and not1=1or(1=1)");
    Checks.good("pays1if day=1");
  }

  private static void wholeWords() {
    Checks.says("CLAUSE: ((\"pays\" | \"costs\") SUM | \"bars\" | \"wants\" | \"sells\") [\"if\" TEST].");
    for (String head : new String[] {"pays 1", "costs 1", "bars", "wants", "sells"}) {
      eachLetter(head, 0, head.indexOf(' ') < 0 ? head.length() : head.indexOf(' '));
      eachLetter(head + " if 1=1", head.length() + 1, 2);
    }
    for (String word : new String[] {"owner", "holder", "to", "day", "weekday", "rain", "held", "price"}) {
      eachLetter("pays " + word, 5, word.length());
      Checks.faultAt("pays " + word + " " + word, 6 + word.length());
    }
    eachLetter("bars if 1=1 or 1=1", 12, 2);
    eachLetter("bars if 1=1 and 1=1", 12, 3);
    eachLetter("bars if not 1=1", 8, 3);
  }

  /** A word is that word with all its letters alone: neither with another one nor with one less. */
  private static void eachLetter(String text, int at, int length) {
    Checks.good(text);
    for (int i = at; i < at + length; i++) {
      Checks.faultAt(text.substring(0, i) + "q" + text.substring(i + 1), at);
      Checks.faultAt(text.substring(0, i) + text.substring(i + 1), at);
    }
    Checks.faultAt(text.substring(0, at) + "q" + text.substring(at), at);
    Checks.faultAt(text.substring(0, at + length) + "q" + text.substring(at + length), at);
  }

  private static void rowsOfDigits() {
    Checks.says("of digits,");
    Checks.faultAt("pays 1" + (char) ('0' - 1), 7);
    Checks.faultAt("pays 1" + (char) ('9' + 1), 6);
    Checks.faultAt("pays 10 00", 8);
    Checks.faultAt("pays 0 0", 7);
    Checks.faultAt("pays 9a", 6);
    Checks.faultAt("pays day9", 8);
    Checks.faultAt("9pays", 0);
    Checks.pays("pays 09", 9);
    Checks.pays("pays 90", 90);
  }

  private static void singleBytes() {
    Checks.says("single other bytes,");
    Checks.faultAt("bars if 1<>1", 10);
    Checks.faultAt("bars if 1==1", 10);
    Checks.faultAt("bars;;", 5);
    Checks.faultAt("pays 1++1", 7);
    Checks.faultAt("pays 1--1", 7);
    Checks.faultAt("pays 1.5", 6);
    Checks.faultAt("pays -1", 5);
    Checks.faultAt("bars" + (char) 0, 4);
    Checks.faultAt("bars" + (char) 127, 4);
    Checks.faultAt("bars" + (char) 128, 4);
    Checks.faultAt("bars" + (char) 255, 4);
    // these are ';' and 'b' in their seven lower bits
    Checks.faultAt("bars" + (char) (';' + 128) + "bars", 4);
    Checks.faultAt((char) ('b' + 128) + "ars", 0);
  }

  private static void blanks() {
    Checks.says("any blanks (32) between.");
    Checks.good("   bars   ;   pays   1   +   2   if   1   =   1   ");
    Checks.good("bars;pays[1]+2if(1=1)");
    for (int b : new int[] {31, 33, 0, 9, 10, 13, 160}) {
      Checks.faultAt("bars" + (char) b, 4);
      Checks.faultAt((char) b + "bars", 0);
      Checks.faultAt("bars;" + (char) b + "bars", 5);
    }
  }

  // ---- how many ----

  private static void twelveClauses() {
    Checks.says("CLAUSE {\";\" CLAUSE}, 12 at most (FAULT at the 13th's first TOKEN).");
    Checks.good("bars");
    Checks.good(Checks.times(10, "bars;") + "bars");
    Checks.good(Checks.times(11, "bars;") + "bars");
    Checks.faultAt(Checks.times(12, "bars;") + "bars", 60);
    Checks.faultAt(Checks.times(12, "bars;") + "   pays 1", 63);
    Checks.faultAt(Checks.times(12, "bars;") + "?", 60);
    Checks.faultAt(Checks.times(12, "bars;") + "bars;bars", 60);
    Checks.faultAt(Checks.times(12, "bars;"), 60);
    Checks.faultAt(Checks.times(12, "bars;") + "  ", 62);
    Checks.faultAt(Checks.times(11, "bars;") + "bars x;bars", 60);
    Checks.faultAt(Checks.times(11, "bars;"), 55);
    Checks.pays(Checks.times(11, "bars;") + "pays 77", 77);
    Checks.pays("pays 77;" + Checks.times(10, "bars;") + "sells", 77);
  }

  private static void numbersToThousand() {
    Checks.says("PART: NUMBER (to 1,000)");
    Checks.pays("pays 0", 0);
    Checks.pays("pays 1", 1);
    Checks.pays("pays 999-900", 99);
    Checks.pays("pays 1000-910", 90);
    Checks.faultAt("pays 1001", 5);
    Checks.faultAt("pays 1+1010", 7);
    Checks.faultAt("costs 2000", 6);
    Checks.faultAt("bars if 1001=1", 8);
    Checks.faultAt("bars if 1=1001", 10);
    Checks.faultAt("pays 10000", 5);
    // 1 behind 2^32, behind 2^64
    Checks.faultAt("pays 4294967297", 5);
    Checks.faultAt("pays 18446744073709551617", 5);
    Checks.faultAt("pays 2147483648", 5);
    Checks.faultAt("pays " + Checks.times(390, "9"), 5);
  }

  private static void fiftyParts() {
    Checks.says("50 PARTS that are NUMBERS and words (FAULT at the 51st),");
    Checks.pays("pays 1" + Checks.times(48, "+1"), 49);
    Checks.pays("pays 1" + Checks.times(49, "+1"), 50);
    Checks.faultAt("pays 1" + Checks.times(50, "+1"), 105);
    Checks.faultAt("pays 1" + Checks.times(51, "+1"), 105);
    Checks.good("pays to" + Checks.times(49, "+to"));
    Checks.faultAt("pays to" + Checks.times(49, "+to") + "+to", 155);
    Checks.faultAt("pays to" + Checks.times(49, "+to") + "+1", 155);
    Checks.faultAt("pays 1" + Checks.times(49, "+1") + "+to", 105);
    Checks.good("pays [1]" + Checks.times(49, "+[1]"));
    Checks.faultAt("pays [1]" + Checks.times(49, "+[1]") + "+[1]", 206);
    Checks.good("bars if 1=1" + Checks.times(24, " or 1=1"));
    Checks.faultAt("bars if 1=1" + Checks.times(24, " or 1=1") + " or 1=1", 183);
    Checks.faultAt("bars if 1=1" + Checks.times(23, " or 1=1") + " or 1+1=1", 180);
    Checks.good(Checks.times(9, "pays 1+1+1;") + "pays 1" + Checks.times(22, "+1"));
    Checks.faultAt(Checks.times(9, "pays 1+1+1;") + "pays 1" + Checks.times(22, "+1") + ";pays 1", 155);
    Checks.faultAt(Checks.times(9, "pays 1+1+1;") + "pays 1" + Checks.times(22, "+1") + " if day=1", 153);
    Checks.good("pays 1" + Checks.times(49, "+1") + ";bars;wants;sells");
  }

  private static void eightBrackets() {
    Checks.says("8 brackets of both kinds within one another (FAULT at the 9th) at most.");
    for (int n = 1; n <= 8; n++) {
      Checks.pays("pays " + Checks.times(n, "[") + "9" + Checks.times(n, "]"), 9);
      Checks.bars("bars if " + Checks.times(n, "(") + "1=1" + Checks.times(n, ")"), true);
      Checks.bars("bars if " + Checks.times(n, "(") + Checks.times(8 - n, "[") + "1" + Checks.times(8 - n, "]") + "=1" + Checks.times(n, ")"), true);
      Checks.faultAt("bars if " + Checks.times(n, "(") + Checks.times(9 - n, "[") + "1" + Checks.times(9 - n, "]") + "=1" + Checks.times(n, ")"), 16);
    }
    Checks.faultAt("pays " + Checks.times(9, "[") + "9" + Checks.times(9, "]"), 13);
    Checks.faultAt("pays " + Checks.times(10, "["), 13);
    Checks.faultAt("bars if " + Checks.times(9, "(") + "1=1" + Checks.times(9, ")"), 16);
    Checks.faultAt("bars if " + Checks.times(8, "(") + "1=[1]" + Checks.times(8, ")"), 18);
    Checks.faultAt("bars if 1=" + Checks.times(9, "[") + "1", 18);
    Checks.pays("pays [1]" + Checks.times(19, "+[1]"), 20);
    Checks.pays("pays " + Checks.times(8, "[") + "1" + Checks.times(8, "]") + "+" + Checks.times(8, "[") + "1" + Checks.times(8, "]"), 2);
    Checks.pays("pays [[[[[[[[1]+[2]]+[3]]]]]]]", 6);
    Checks.bars("bars if " + Checks.times(8, "(") + "1=2" + Checks.times(8, ")") + " or " + Checks.times(8, "(") + "1=1" + Checks.times(8, ")"), true);
    Checks.bars("bars if (1=1) and (1=1) and [1]=[1] and [[1]]=[[1]] and ((1=1)) and (1=1) and (1=1) and (1=1) and (1=1) and (1=1)", true);
  }

  private static void faultPlaces() {
    Checks.says("FAULT: the first TOKEN that can't go on there (the end's: the TEXT's length).");
    Checks.faultAt("", 0);
    Checks.faultAt(" ", 1);
    Checks.faultAt("pays", 4);
    Checks.faultAt("pays ", 5);
    Checks.faultAt("pays 1+", 7);
    Checks.faultAt("pays 1*   ", 10);
    Checks.faultAt("pays [", 6);
    Checks.faultAt("pays [1", 7);
    Checks.faultAt("bars if", 7);
    Checks.faultAt("bars if not", 11);
    Checks.faultAt("bars if (", 9);
    Checks.faultAt("bars if (1=1", 12);
    Checks.faultAt("bars if 1", 9);
    Checks.faultAt("bars if 1=", 10);
    Checks.faultAt("bars if 1=1 or", 14);
    Checks.faultAt("bars if 1=1 and ", 16);
    Checks.faultAt("bars;", 5);
    Checks.faultAt("bars 1", 5);
    Checks.faultAt("wants day", 6);
    Checks.faultAt("sells sells", 6);
    Checks.faultAt("pays if 1=1", 5);
    Checks.faultAt("pays 1 if 1=1 if 1=1", 14);
    Checks.faultAt("pays (1)", 5);
    Checks.faultAt("pays 1]", 6);
    Checks.faultAt("bars if [1=1]", 10);
    Checks.faultAt("bars if (1)=1", 10);
    Checks.faultAt("bars if (1=1]", 12);
    Checks.faultAt("bars if 1=1)", 11);
    Checks.faultAt("bars if 1=1=1", 11);
    Checks.faultAt("bars if 1=not 1", 10);
    Checks.faultAt("pays not 1", 5);
    Checks.faultAt("pays 1001 day ;", 5);
  }

  // ---- what is told ----

  private static void notTold() {
    Checks.says("Where what follows does not tell one of them, it is -1.");
    for (String word : new String[] {"to", "price"}) Checks.pays("pays " + word, -1);
    for (String word : new String[] {"owner", "day", "weekday", "rain", "price"}) Checks.costs("costs " + word + "+9", 8);
    Checks.bars("bars if price=0-1", true);
    Checks.bars("bars if owner=0-1 or holder=0-1 or to=0-1 or day=0-1 or weekday=0-1 or rain=0-1", false);
    for (String word : new String[] {"owner", "holder", "day", "rain"}) {
      due(word + " is not told to wants", Checks.under("wants if " + word + "=0-1").price(3), 60);
    }
    for (String word : new String[] {"owner", "to", "day", "rain"}) {
      due(word + " is not told to sells", Checks.under("sells if " + word + "=0-1").price(3), 1);
    }
    for (String word : new String[] {"to", "weekday", "price", "held"}) {
      due(word + " is told to wants", Checks.under("wants if " + word + "=0-1").price(3), 10);
    }
    for (String word : new String[] {"holder", "weekday", "price"}) {
      due(word + " is told to sells", Checks.under("sells if " + word + "=0-1").price(3), 10);
    }
  }

  private static void eachHeadAlone() {
    Checks.says("Told by a HEAD is what the last CLAUSE with it that HOLDS tells.");
    String[] heads = {"pays 5", "costs 5", "bars", "wants", "sells"};
    int[][] told = {{5, 1, 0, 10}, {1, 5, 0, 10}, {1, 1, 1, 10}, {1, 1, 0, 60}, {1, 1, 0, 1}};
    for (int i = 0; i < heads.length; i++) {
      BorrowedDays x = Checks.under(heads[i]);
      due("pay under '" + heads[i] + "'", x.of(0, 0, 0, 2), told[i][0]);
      due("cost under '" + heads[i] + "'", x.chain(0, 1), told[i][1]);
      due("barred under '" + heads[i] + "'", x.of(0, 0, 1, 1), told[i][2]);
      due("price under '" + heads[i] + "'", x.price(0), told[i][3]);
    }
  }

  private static void whatIsNot() {
    Checks.says("PLAIN: \"not\" PLAIN");
    String[] so = {"1=1", "1<2", "2>1", "(1=1)", "1=1 and 1=1", "1=2 or 1=1"};
    String[] notSo = {"1=2", "2<1", "1<1", "1>2", "1>1", "(1=2)", "1=1 and 1=2", "1=2 or 1=2"};
    for (int n = 0; n <= 5; n++) {
      for (String test : so) Checks.bars("bars if " + Checks.times(n, "not ") + "(" + test + ")", n % 2 == 0);
      for (String test : notSo) Checks.bars("bars if " + Checks.times(n, "not ") + "(" + test + ")", n % 2 == 1);
    }
    Checks.bars("bars if not 1=1 or 1=1", true);
    Checks.bars("bars if not 1=2 and 1=2", false);
    Checks.bars("bars if not not 1=1 and not 1=2", true);
  }

  private static void whatIsHeld() {
    Checks.says("held: how many COPIES the VILLAGE to holds (without one that would come; 0 where to is -1).");
    Checks.bars("bars if held=28", true);
    Checks.bars("bars if held=29", false);
    BorrowedDays x = Checks.under("bars if held>28");
    due("28 ahead of the one that would come", x.lend(0, 0, 1), 0);
    due("29 ahead of the one that would come", x.lend(0, 1, 1), -3);
    x = Checks.under("bars if held<1; costs held");
    x.terms(0, 2);
    for (int day = 0; day < 27; day++) x.lend(0, day, 1);
    due("the one that it holds", x.of(1, 0, 0, 1), 0);
    due("cost to who holds 1", x.chain(1, 0), 1);
    x.lend(0, 27, 1);
    due("it holds none", x.of(1, 0, 0, 1), 1);
    due("cost to who holds none", x.chain(1, 0), 0);
    due("cost to who holds all", x.chain(0, 1), 56);
    x = Checks.allWith(Checks.under("pays held; wants if held=224"), 5);
    due("to is not told", x.of(0, 0, 0, 2), 0);
    due("one wants who holds all", x.price(0), 60);
    due("to is not told to sells", Checks.under("sells if held=0").price(0), 1);
  }

  private static void beyondTheMost() {
    Checks.says("Beyond 1,000,000,000 either way, or divided by 0, a SUM, a TEST is BROKEN;");
    Checks.pays("pays 5; pays [" + MOST + "-1]/1000/1000/100", 9);
    Checks.pays("pays 5; pays " + MOST + "/1000/1000/100", 10);
    Checks.pays("pays 5; pays [" + MOST + "+1]/1000/1000/100", 5);
    Checks.pays("pays 5; pays [0-" + MOST + "+1]/1000/1000/100", -9);
    Checks.pays("pays 5; pays [0-" + MOST + "]/1000/1000/100", -10);
    Checks.pays("pays 5; pays [0-" + MOST + "-1]/1000/1000/100", 5);
    Checks.pays("pays 5; pays " + MOST, 99);
    Checks.pays("pays 5; pays " + MOST + "+1", 5);
    Checks.pays("pays 5; pays 0-" + MOST, -99);
    Checks.pays("pays 5; pays 0-" + MOST + "-1", 5);
    Checks.pays("pays 5; pays [" + MOST + "]*[" + MOST + "]", 5);
    Checks.pays("pays 5; pays [" + MOST + "]*[0-" + MOST + "]", 5);
    // 65536 * 65536 is 0 in 32 bits
    Checks.pays("pays 5; pays 256*256*256*256", 5);
    Checks.pays("pays 5; pays 256*256*256*256*256*256*256*256", 5);
    Checks.bars("bars if " + MOST + "=" + MOST, true);
    Checks.bars("bars if 0-" + MOST + "<" + MOST, true);
    Checks.bars("bars if " + MOST + "+1>1", false);
    Checks.bars("bars if not " + MOST + "+1<1", false);
    Checks.bars("bars if 1>0-" + MOST + "-1", false);
    Checks.bars("bars if not 1<0-" + MOST + "-1", false);
  }

  private static void dividedByNothing() {
    Checks.says("or divided by 0,");
    Checks.pays("pays 5; pays 9/1", 9);
    Checks.pays("pays 5; pays 9/0", 5);
    Checks.pays("pays 5; pays 0/0", 5);
    Checks.pays("pays 5; pays 9/[0-1]", -9);
    Checks.pays("pays 5; pays 9/[day-9]", 5);
    Checks.pays("pays 5; pays 9/[day-8]", 9);
    Checks.pays("pays 5; pays 0*[1/0]", 5);
    Checks.pays("pays 5; pays 6 if 1/0=1", 5);
    Checks.pays("pays 5; pays 6 if not 1/0=1", 5);
    Checks.pays("pays 1/0", 1);
    Checks.costs("costs 9/0", 1);
    Checks.bars("bars if 9/0=0", false);
    due("wants", Checks.under("wants if 9/0=0 or 1=1").price(0), 10);
    due("sells", Checks.under("sells if not 9/[price-10]=0").price(0), 10);
  }

  private static void cutTowardsNothing() {
    Checks.says("/ is cut towards 0.");
    Checks.pays("pays 6/2", 3);
    Checks.pays("pays 7/2", 3);
    Checks.pays("pays 1/2", 0);
    Checks.pays("pays [0-7]/2", -3);
    Checks.pays("pays 7/[0-2]", -3);
    Checks.pays("pays [0-7]/[0-2]", 3);
    Checks.pays("pays [0-1]/2", 0);
    Checks.pays("pays [0-6]/2", -3);
  }

  private static void onlyIfItMatters() {
    Checks.says("(\"or\", \"and\" ask what stands behind only if it can still matter).");
    Checks.bars("bars if 1=1 or 1/0=1", true);
    Checks.bars("bars if 1=2 or 1/0=1", false);
    Checks.bars("bars if not (1=2 or 1/0=1)", false);
    Checks.bars("bars if 1/0=1 or 1=1", false);
    Checks.bars("bars if 1=2 and 1/0=1 or 1=1", true);
    Checks.bars("bars if not (1=2 and 1/0=1)", true);
    Checks.bars("bars if not (1=1 and 1/0=1)", false);
    Checks.bars("bars if not (1/0=1 and 1=2)", false);
    Checks.bars("bars if 1=1 or 1=2 and 1/0=1", true);
    Checks.bars("bars if 1=2 or 1=1 or 1/0=1", true);
    Checks.bars("bars if not (1=1 and 1=2 and 1/0=1)", true);
    Checks.bars("bars if (1=1 or 1/0=1) and 1=1", true);
    Checks.bars("bars if (1=1 or 1/0=1) and 1/0=1", false);
  }

  private static void theLastThatHolds() {
    Checks.says("Told by a HEAD is what the last CLAUSE with it that HOLDS tells.");
    Checks.pays("pays 5; pays 6; pays 7", 7);
    Checks.pays("pays 5; pays 6; pays 7 if day=8", 6);
    Checks.pays("pays 5; pays 6 if day=8; pays 7 if day=10", 5);
    Checks.pays("pays 5 if day=9; pays 6 if day=8", 5);
    Checks.pays("pays 5; pays 6/0; costs 7; bars", 5);
    Checks.pays("pays 5 if day=8", 1);
    Checks.bars("bars if 1=1; bars if 1=2", true);
    Checks.bars("bars if 1=2; bars if 1=2", false);
  }

  private static void payBounds() {
    Checks.says("-99 .. 99 (else the nearest), 1 without.");
    int[] pays = {98, 99, 100, 101, 1000};
    for (int p : pays) {
      Checks.pays("pays " + p, Math.min(p, 99));
      Checks.pays("pays 0-" + p, -Math.min(p, 99));
    }
    Checks.pays("pays " + MOST, 99);
    Checks.pays("pays 0-" + MOST, -99);
    Checks.pays("pays 0", 0);
    Checks.pays("bars", 1);
    Checks.pays("costs 9", 1);
    due("wages are cut copy by copy", Checks.under("pays 100").wages(0, 2), 198);
    due("wages are cut copy by copy", Checks.under("pays 0-100").wages(0, 2), -198);
  }

  private static void costBounds() {
    Checks.says("what \"costs\" tells (holder, to), 0 .. 99, 1 without.");
    Checks.costs("costs 0-1", 0);
    Checks.costs("costs 0", 0);
    Checks.costs("costs 1", 1);
    Checks.costs("costs 98", 98);
    Checks.costs("costs 99", 99);
    Checks.costs("costs 100", 99);
    Checks.costs("costs " + MOST, 99);
    Checks.costs("costs 0-" + MOST, 0);
    Checks.costs("pays 9", 1);
    Checks.costs("costs 9 if holder=0", 1);
    Checks.costs("costs 9 if holder=1 and to=0", 9);
  }

  public static void main(String[] args) {
    sixLaws();
    eachLawAlone();
    fourHundredBytes();
    noneInForce();
    rowsOfLetters();
    wholeWords();
    rowsOfDigits();
    singleBytes();
    blanks();
    twelveClauses();
    numbersToThousand();
    fiftyParts();
    eightBrackets();
    faultPlaces();
    notTold();
    eachHeadAlone();
    whatIsNot();
    whatIsHeld();
    beyondTheMost();
    dividedByNothing();
    cutTowardsNothing();
    onlyIfItMatters();
    theLastThatHolds();
    payBounds();
    costBounds();
    Checks.end();
  }
}
