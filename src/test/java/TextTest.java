/** Promises 10 to 13: the tape, RULES, RULES BESIDE, and where their FAULT is. */
final class TextTest {
    private static final String LONGEST = "allow run line 0 100 unless ";

    private TextTest() {
    }

    public static void main(String[] args) {
        promise10Feed();
        promise11Rules();
        promise11TheWholeTape();
        promise11Amending();
        promise11AmendingToday();
        promise12Beside();
        promise12BesideAmends();
        promise13Fault();
        statements();
        bounds();
        tokens();
        tests();
        opens();
        thirtyOne();
        strikes();
        Check.end();
    }

    private static void promise10Feed() {
        WaterReview x = new WaterReview();
        for (int i = 1; i <= 45; i++) {
            Check.due("feed " + i, x.feed(1, 2, 3, 4, 5), 20 * i);
        }
        Check.due("feed 46", x.feed(1, 2, 3, 4, 5), -1);
        Check.due("bytes", x.count(9), 900);
        WaterReview y = new WaterReview();
        // "inde" "x 07" "7;lo" "g\n\n4" "\n;  ": of each number the highest byte first.
        y.feed(0x696e6465, 0x78203037, 0x373b6c6f, 0x670a0a34, 0x0a3b2020);
        Check.due("its bytes as RULES", y.rules(20, 0), 0);
        Check.due("two statements", y.review(0, 1), 2);
        WaterReview z = new WaterReview();
        z.feed(0x6c6f6734, 0x3bff2020, 0, 0, 0);
        Check.due("bytes above 127 begin no token", z.rules(20, 0), -1);
        Check.due("the byte 255", z.fault(), 5);
        z.feed(0x6c6f6734, 0x3b000000, 0, 0, 0);
        z.rules(6, 0);
        Check.due("the byte 0", z.fault(), 5);
    }

    private static void promise11Rules() {
        WaterReview x = new WaterReview();
        Check.due("no bytes are RULES too", x.rules(0, 0), 0);
        Check.due("without statements", x.review(0, 1), 0);
        Check.due("n -1", x.rules(-1, 0), -2);
        Check.due("n 1 of 0", x.rules(1, 0), -2);
        Check.tape(x, "log 5;");
        Check.due("n 21 of 20", x.rules(21, 0), -2);
        Check.due("review -1", x.rules(6, -1), -2);
        Check.due("review 3", x.rules(6, 3), -2);
        Check.due("the tape is there still", x.count(9), 20);
        Check.due("review 2", x.rules(6, 2), 1);
        Check.due("the tape is empty", x.count(9), 0);
        for (int i = 2; i < 8; i++) {
            Check.due("RULES " + i, Check.rules(x, 1, "log " + i + ";"), i);
        }
        Check.due("8 RULES", x.count(7), 8);
        Check.due("the ninth", Check.rules(x, 0, "log 9;"), -3);
        Check.due("the tape is there then", x.count(9), 20);
        Check.due("the ninth with a FAULT", x.rules(5, 0), -3);
        Check.due("no such n ahead of the ninth", x.rules(21, 0), -2);
        Check.due("no FAULT by all that", x.fault(), -1);
    }

    private static void promise11TheWholeTape() {
        WaterReview x = new WaterReview();
        Check.tape(x, "log 5;log 6;log 7;  ");
        Check.due("the first six bytes", x.rules(6, 0), 0);
        Check.due("one statement", x.review(0, 1), 1);
        Check.due("nothing is left", x.count(9), 0);
        Check.tape(x, "log 5;lo");
        Check.due("a FAULT", x.rules(7, 0), -1);
        Check.due("nothing is left by a FAULT", x.count(9), 0);
        Check.due("nothing is taken by a FAULT", x.count(7), 1);
    }

    private static void promise11Amending() {
        WaterReview x = new WaterReview();
        x.firm(1);
        Check.due("amending none", Check.rules(x, 2, "amend; log 1;"), 0);
        Check.due("one statement", x.review(2, 1), 1);
        Check.rules(x, 0, "return 10; index 90; wear 3; back 4; tilt 5;");
        Check.rules(x, 1, "return 20; log 7;");
        // Of REVIEW 1: RULES 2. Of REVIEW 0: RULES 1. Of REVIEW 2: RULES 0.
        Check.due("amend 0", Check.rules(x, 0, "amend; strike 3; wear 9; strike 0; log 2;"), 3);
        Check.due("its statements", x.review(0, 1), 5);
        Check.due("return was struck", x.holds(0, 0, 3, 0), -1);
        Check.due("index moved up", x.holds(0, 0, 4, 0), 0);
        Check.due("the wear of its own", x.holds(0, 0, 5, 0), 3);
        Check.due("back was struck", x.holds(0, 0, 6, 0), -1);
        Check.due("tilt moved up", x.holds(0, 0, 7, 0), 2);
        Check.due("log of its own", x.holds(0, 0, 8, 0), 4);
        Check.due("REVIEW 1 has its own", x.review(1, 0), 2);
        Check.due("amend 1", Check.rules(x, 1, "amend ;"), 4);
        Check.due("as many statements", x.review(1, 1), 2);
        Check.due("amend the amended", Check.rules(x, 0, "amend; strike 4;"), 5);
        Check.due("one less", x.review(0, 1), 4);
        Check.due("not amended: nothing of what was", Check.rules(x, 0, "tilt 1;"), 6);
        Check.due("one statement alone", x.review(0, 1), 1);
    }

    private static void promise11AmendingToday() {
        WaterReview x = new WaterReview();
        Check.rules(x, 0, "return 10;");
        x.day(600);
        Check.rules(x, 1, "log 1; log 2;");
        // REVIEW 1 was decided on 500 and has RULES 0; decided today it would have RULES 1.
        Check.due("REVIEW 1 has", x.review(1, 0), 0);
        Check.due("amend 1", Check.rules(x, 1, "amend; strike 1; wear 1; wear 2;"), 2);
        Check.due("REVIEW 2 has", x.review(2, 0), 2);
        Check.due("its statements", x.review(2, 1), 3);
    }

    private static void promise12Beside() {
        WaterReview x = new WaterReview();
        x.firm(1000);
        Check.due("n -1", x.beside(-1), -2);
        Check.due("n 1 of 0", x.beside(1), -2);
        Check.due("none beside", x.tried(0, 0), -2_000_000_000_000L);
        Check.due("beside", Check.beside(x, "return 100;"), 0);
        Check.due("the tape is empty", x.count(9), 0);
        Check.due("beside 1", x.count(8), 1);
        Check.due("tried", x.tried(0, 0), 100);
        Check.due("not in force", x.revenue(0, 0, 0), 0);
        Check.due("not taken", x.count(7), 0);
        Check.due("in place of what was", Check.beside(x, "return 50;"), 0);
        Check.due("tried by the new", x.tried(0, 0), 50);
        Check.tape(x, "wear");
        Check.due("n beyond", x.beside(21), -2);
        Check.due("beside still", x.count(8), 1);
        Check.due("a FAULT", x.beside(4), -1);
        Check.due("its place", x.fault(), 4);
        Check.due("none beside then", x.count(8), 0);
        Check.due("tried by none", x.tried(0, 0), -2_000_000_000_000L);
        Check.due("the tape is empty by a FAULT", x.count(9), 0);
        for (int i = 0; i < 8; i++) {
            Check.rules(x, 0, "");
        }
        Check.due("beside when 8 are taken", Check.beside(x, "return 7;"), 0);
        Check.due("tried", x.tried(0, 0), 7);
    }

    private static void promise12BesideAmends() {
        WaterReview x = new WaterReview();
        x.firm(1000);
        Check.rules(x, 0, "return 10; wear 1;");
        Check.rules(x, 1, "return 20;");
        Check.rules(x, 2, "return 30;");
        x.day(499);
        Check.due("amends REVIEW 0's", Check.beside(x, "amend; strike 1;"), 0);
        Check.due("tried in 0", x.tried(0, 0), 10);
        x.day(500);
        Check.due("REVIEW 1's has no place 1", Check.beside(x, "amend; strike 1;"), -1);
        Check.due("its place", x.fault(), 14);
        Check.due("amends REVIEW 1's", Check.beside(x, "amend; wear 0;"), 0);
        Check.due("tried in 0 by REVIEW 1's", x.tried(0, 0), 20);
        x.day(700);
        Check.rules(x, 1, "return 40;");
        Check.due("amends what REVIEW 1 would have today", Check.beside(x, "amend;"), 0);
        Check.due("tried in 0 then", x.tried(0, 0), 40);
        x.day(1000);
        Check.beside(x, "amend;");
        Check.due("tried in 0 by REVIEW 2's", x.tried(0, 0), 30);
    }

    private static void promise13Fault() {
        WaterReview x = new WaterReview();
        Check.due("none yet", x.fault(), -1);
        Check.due("a FAULT of rules", Check.rules(x, 0, "log 5; lag"), -1);
        Check.due("its place", x.fault(), 7);
        Check.due("-2 keeps it", x.rules(-1, 0), -2);
        Check.due("its place still", x.fault(), 7);
        Check.due("-2 of beside keeps it", x.beside(1), -2);
        Check.due("its place again", x.fault(), 7);
        Check.due("a number", Check.rules(x, 0, "log 5;"), 0);
        Check.due("it had none", x.fault(), -1);
        Check.due("a FAULT of beside", Check.beside(x, "log 5"), -1);
        Check.due("its place behind all", x.fault(), 5);
        Check.due("beside", Check.beside(x, "log 5;"), 0);
        Check.due("none by beside", x.fault(), -1);
        for (int i = 0; i < 7; i++) {
            x.rules(0, 0);
        }
        Check.due("a FAULT of beside again", Check.beside(x, ";"), -1);
        Check.due("-3", x.rules(0, 0), -3);
        Check.due("-3 keeps it", x.fault(), 0);
    }

    /** The text must be RULES. */
    private static void good(String text) {
        WaterReview x = new WaterReview();
        Check.due("rules of " + text, Check.rules(x, 0, text), 0);
        Check.due("fault of " + text, x.fault(), -1);
    }

    /** The text must have its FAULT where the sign ^ stands (which is no part of it). */
    private static void bad(String marked) {
        int place = marked.indexOf('^');
        String text = marked.substring(0, place) + marked.substring(place + 1);
        WaterReview x = new WaterReview();
        Check.due("rules of " + text, Check.rules(x, 0, text), -1);
        Check.due("fault of " + text, x.fault(), place);
    }

    private static void statements() {
        good("");
        good(" \n ");
        good("allow run line 0 0;allow pipes mean 1 1;allow power best 2 200;allow other plan 7;");
        good("share run 0 0;share pipes 100 100;share power 1 2;share other 2 1;");
        good("target 0 more 0 step 1 coin 0 dead 0 cap 0;target 1 less 1 step 2 coin 3 dead 4 cap 5;");
        good("return 0;index 100;wear 0;back 0;tilt 0;log 0;");
        good("amend;");
        good("amend ; return 1;");
        bad("^allowance run plan 5;");
        bad("^;");
        bad("return 5;^;");
        bad("^5;");
        bad("^unless year<5;");
        bad("return^");
        bad("return ^;");
        bad("return ^unless");
        bad("return 5^");
        bad("return 5   ^");
        bad("return 5 ^5;");
        bad("return 5 ^return 6;");
        bad("allow^");
        bad("allow ^line 0 5;");
        bad("allow run ^more 5;");
        bad("allow run ^0 5;");
        bad("allow run line^");
        bad("allow run line 0^");
        bad("allow run line 0 ^;");
        bad("allow run mean 0 ^;");
        bad("allow run best 0 ^;");
        bad("allow run plan 0 ^5;");
        bad("share ^5 5;");
        bad("share run 5 ^;");
        bad("share run 5 5 ^5;");
        bad("target ^more");
        bad("target 0 ^5");
        bad("target 0 more ^step");
        bad("target 0 less 5 ^coin 3");
        bad("target 0 less 5 step 3 ^dead 5");
        bad("target 0 less 5 step 3 coin 5 ^cap 5");
        bad("target 0 less 5 step 3 coin 5 dead 5^");
        bad("target 0 less 5 step 3 coin 5 dead 5 ^;");
        bad("target 0 less 5 step 3 coin 5 dead 5 cap ^;");
        bad("amend^");
        bad("amend ^return 5;");
        bad("amend;^amend;");
        bad("return 5;^amend;");
        bad("^strike 0;");
        bad("return 5;^strike 0;");
    }

    private static void bounds() {
        bad("allow run line ^3 5;");
        bad("allow run mean ^3 5;");
        bad("allow run best ^3 5;");
        good("allow run line 2 200;");
        bad("allow run line 2 ^201;");
        bad("allow run mean 2 ^201;");
        bad("allow run best 2 ^201;");
        good("allow run plan 200;");
        bad("allow run plan ^201;");
        bad("share run ^101 5;");
        bad("share run 100 ^101;");
        bad("target ^3 more 5");
        good("target 2 more 99999 step 99999 coin 99999 dead 99999 cap 99999;");
        bad("target 2 more ^100000 step");
        bad("target 2 more 1 step ^0 coin");
        bad("target 2 more 1 step ^00000 coin");
        bad("target 2 more 1 step ^100000 coin");
        bad("target 2 more 1 step 1 coin ^100000 dead");
        bad("target 2 more 1 step 1 coin 1 dead ^100000 cap");
        bad("target 2 more 1 step 1 coin 1 dead 1 cap ^100000;");
        good("return 500;");
        bad("return ^501;");
        good("index 50;index 150;");
        bad("index ^49;");
        bad("index ^151;");
        good("wear 100;back 100;tilt 100;log 100;");
        bad("wear ^101;");
        bad("back ^101;");
        bad("tilt ^101;");
        bad("log ^101;");
        good("log 00100;");
        bad("log ^000100;");
        bad("log ^000000;");
        bad("log ^99999999999999999999;");
        good("log 5 unless worth<99999;");
        bad("log 5 unless worth<^100000;");
        bad("log 5 unless worth<^000001;");
    }

    private static void tokens() {
        good("log5;log\n5\n;\nlog5unless year<5;");
        good("allow run plan5;");
        bad("^allowrun plan 5;");
        bad("allow ^runplan 5;");
        bad("log 5 ^5;");
        good("log 5unless(year<5)and not(firm=1);");
        bad("log 5;^$");
        bad("log 5;^LOG 5;");
        bad("^Log 5;");
        bad("log ^-5;");
        bad("log 5^.5;");
        bad("log 5;\n ^\t");
        bad("log 5^, log 6;");
        bad("^lo g 5;");
        bad("^logs 5;");
        bad("^logz 5;");
        bad("^alog 5;");
        bad("^zlog 5;");
        bad("log ^500000;");
        bad("log 5 unless year^!5;");
        bad("log 5 unless year<^=5;");
        bad("log 5 ^" + (char) 233);
        bad("^" + (char) 200 + "log 5;");
        bad("log 5;^" + (char) 0);
        bad("log 5;^" + (char) 13 + (char) 10);
        bad("log ^five; $");
    }

    private static void tests() {
        good("log 5 unless year<5;log 5 unless firm>5;log 5 unless homes=5;");
        good("log 5 unless worth<5 or late>0 and year=1 or not firm=2;");
        good("log 5 unless ((year<5));log 5 unless not not year<5;");
        bad("log 5 unless^");
        bad("log 5 unless ^;");
        bad("log 5 unless ^5<year;");
        bad("log 5 unless ^years<5;");
        bad("log 5 unless year ^;");
        bad("log 5 unless year ^5;");
        bad("log 5 unless year < ^;");
        bad("log 5 unless year < ^firm;");
        bad("log 5 unless year < 5 ^firm<5;");
        bad("log 5 unless year < 5 and ^;");
        bad("log 5 unless year < 5 and ^and firm<5;");
        bad("log 5 unless year < 5 or^");
        bad("log 5 unless year < 5 ^not year<5;");
        bad("log 5 unless not ^;");
        bad("log 5 unless not ^and");
        bad("log 5 unless ( ^);");
        bad("log 5 unless (year<5^;");
        bad("log 5 unless (year<5)^);");
        bad("log 5 unless year<5^);");
        bad("log 5 unless (year<5 or ^);");
        bad("log 5 unless (year<5)^(year<5);");
        bad("log 5 ^(year<5);");
        bad("log 5 unless year<5 ^unless year<6;");
        bad("log 5 unless year<5^");
    }

    private static String times(String text, int n) {
        return text.repeat(n);
    }

    private static void opens() {
        good(LONGEST + times("(", 10) + "year<5" + times(")", 10) + ";");
        bad(LONGEST + times("(", 10) + "^(year<5" + times(")", 11) + ";");
        good(LONGEST + times("not ", 10) + "year<5;");
        bad(LONGEST + times("not ", 10) + "^not year<5;");
        good(LONGEST + times("not(", 5) + "year<5" + times(")", 5) + ";");
        bad(LONGEST + times("not(", 5) + "^not year<5" + times(")", 5) + ";");
        bad(LONGEST + times("not(", 5) + "^(year<5)" + times(")", 5) + ";");
        // What is closed again doesn't count: side by side there may be more than ten.
        good(LONGEST + times("(year<5)and ", 11) + "not not late=0 or not late=1;");
        good(LONGEST + times("(", 9) + times("not late=0 or ", 3) + "(late=1)" + times(")", 9) + ";");
        bad(LONGEST + times("(", 9) + "not ^not late=0" + times(")", 9) + ";");
        bad(LONGEST + times("(", 10) + "^;");
        bad(LONGEST + times("(", 10) + "year<5" + times(")", 9) + "^;");
    }

    private static void thirtyOne() {
        good(times("log 5;", 30));
        good(times("log 5;", 30) + " \n");
        bad(times("log 5;", 30) + " ^log 5;");
        bad(times("log 5;", 30) + " ^strike 5;");
        bad(times("log 5;", 30) + "^;");
        bad(times("log 5;", 30) + "^$");
        good("amend;" + times("log 5;", 30));
        bad("amend;" + times("log 5;", 30) + "^log 5;");
        WaterReview x = new WaterReview();
        Check.rules(x, 0, times("log 5;", 30));
        Check.due("amended to more than 30", Check.rules(x, 0, "amend;" + times("log 6;", 30)), 1);
        Check.due("60 statements", x.review(0, 1), 60);
        Check.due("strikes count", Check.rules(x, 0,
                "amend;strike 0;strike 59;" + times("log 5;", 29)), -1);
        Check.due("where the 31st begins", x.fault(), 25 + 28 * 6);
        Check.due("28 and two strikes", Check.rules(x, 0,
                "amend;strike 0;strike 59;" + times("log 5;", 28)), 2);
        Check.due("86 statements", x.review(0, 1), 86);
        Check.due("strike 86", Check.beside(x, "amend;strike 85;strike 86;"), -1);
        Check.due("at its NUMBER", x.fault(), 23);
    }

    private static void struck(String marked) {
        WaterReview x = new WaterReview();
        Check.rules(x, 0, "return 10;index 90;wear 3;");
        int place = marked.indexOf('^');
        String text = marked.replace("^", "");
        Check.due("rules of " + text, Check.rules(x, 0, text), place < 0 ? 1 : -1);
        Check.due("fault of " + text, x.fault(), place);
    }

    private static void strikes() {
        struck("amend;strike 0;strike 1;strike 2;");
        struck("amend;strike 2;strike 0;");
        struck("amend;strike 00002;");
        struck("amend;strike ^3;");
        struck("amend;strike ^000002;");
        struck("amend;strike ^99999;");
        struck("amend;strike 1;strike ^1;");
        struck("amend;strike 0;strike 2;strike ^2;");
        struck("amend;log 5;strike ^3;");
        struck("amend;strike ^;");
        struck("amend;strike ^strike");
        struck("amend;strike^");
        struck("amend;strike  ^");
        struck("amend;strike 1^");
        struck("amend;strike 1 ^2;");
        struck("amend;strike 1 ^unless year<5;");
        struck("amend;strike 0;strike 1;strike 2;strike ^");
        struck("amend;strike 0;strike 1;strike 2;strike ^0;");
        struck("amend;strike ^$;");
        struck("return 5;^strike 0;");
        bad("amend;strike ^0;");
        bad("amend;strike ^;");
        bad("amend;strike^");
    }
}
