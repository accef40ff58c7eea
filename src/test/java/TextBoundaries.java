/** Boundaries of 'Terms' and of promises 1 to 5: the tape, TOKENS, the grammar, FAULTS. */
public final class TextBoundaries extends Checks {
    private static final String[] WORDS = {"post", "guard", "at", "flow", "if", "then", "else", "damp", "sleep", "neck", "wet",
        "above", "below", "minute"};
    private static final int BLANKS = 0x20202020;

    public static void main(String[] args) {
        newObject();
        feedTwentyBytes();
        feedBeyond();
        backLastBytes();
        backRefused();
        readEmptiesTape();
        placeOfLatest();
        textOfTwoThousand();
        blanks();
        longestTokens();
        names();
        namesAreNoWords();
        ints();
        signs();
        textIsAnyTells();
        tellsCutShort();
        optionalParts();
        mostPosts();
        mostGrains();
        mostNeck();
        mostGuards();
        flowIfNotTold();
        mostDamp();
        mostDampNumbers();
        dampIfNotTold();
        sleepTold();
        firstByPlace();
        textsEnd();
        ofOnePlaceTheLeast();
        mostTokens();
        eachTokenTooMany();
        roomAtFirstToken();
        fifthIf();
        seventhBracket();
        syntaxAndRoomFirst();
        twiceNames();
        twicePosts();
        unknownPosts();
        wrongNumbers();
        faultChangesNothing();
        faultIsForgotten();
        textInPlace();
        end();
    }

    private static void newObject() {
        sentence("1: Nothing is told.");
        SandGuards x = new SandGuards();
        same("new", state(x), "0,0,0,0,0,60,0,0,0,0,0,0,0;");
        for (int what = 0; what <= 6; what++) {
            is("post(0, " + what + ")", x.post(0, what), NONE);
            is("guard(0, " + what + ")", x.guard(0, what), NONE);
        }
        for (int slot = 0; slot < 3; slot++) {
            is("restore(" + slot + ")", x.restore(slot), false);
        }
        is("undo()", x.undo(), false);
        is("forget()", x.forget(), 0);
        is("place()", x.place(), NONE);
        is("read()", x.read(), 0);
    }

    private static void feedTwentyBytes() {
        sentence("2: Twenty bytes, the highest of a first, come behind the tape");
        SandGuards x = new SandGuards();
        is("feed", x.feed(0x706f7374, 0x20616220, 0x31203232, 0x20333b64, 0x616d703b), 20);
        is("\"post ab 1 22 3;damp;\"", x.read(), 0);
        glass(x, 0, 1, 22);
        is("flow", x.post(0, 5), 1);
        for (int at = 0; at < 20; at++) {
            int[] bytes = {BLANKS, BLANKS, BLANKS, BLANKS, BLANKS};
            bytes[at / 4] |= 255 << 24 - 8 * (at % 4);
            is("feed", x.feed(BLANKS, BLANKS, BLANKS, BLANKS, BLANKS), 20);
            is("feed", x.feed(bytes[0], bytes[1], bytes[2], bytes[3], bytes[4]), 40);
            is("no TOKEN among blanks", x.read(), 1);
            is("its place", x.place(), 20 + at);
        }
    }

    private static void feedBeyond() {
        sentence("2: NONE, and nothing comes, if it would have more than 2,000.");
        SandGuards x = new SandGuards();
        for (int i = 1; i <= 99; i++) {
            is("feed", x.feed(BLANKS, BLANKS, BLANKS, BLANKS, BLANKS), 20 * i);
        }
        is("1,980 and 20", x.feed(BLANKS, BLANKS, BLANKS, BLANKS, BLANKS), 2000);
        is("2,000 and 20", x.feed(-1, -1, -1, -1, -1), NONE);
        is("bytes", x.count(8), 2000);
        is("one goes", x.back(1), 1999);
        is("1,999 and 20", x.feed(-1, -1, -1, -1, -1), NONE);
        is("18 more go", x.back(18), 1981);
        is("1,981 and 20", x.feed(-1, -1, -1, -1, -1), NONE);
        is("bytes", x.count(8), 1981);
        is("one goes", x.back(1), 1980);
        is("1,980 and 20", x.feed(BLANKS, BLANKS, BLANKS, BLANKS, BLANKS), 2000);
        is("nothing but blanks came", x.read(), 0);
    }

    private static void backLastBytes() {
        sentence("3: The last n bytes of the tape go: how many it has.");
        SandGuards x = new SandGuards();
        put(x, "sleep 123;");
        is("back(0)", x.back(0), 10);
        is("back(2)", x.back(2), 8);
        put(x, ";damp 1;");
        is("back(7)", x.back(7), 9);
        is("\"sleep 12;\"", x.read(), 0);
        is("sleep", x.count(5), 12);
        // What went is not looked at: four digits, eight letters at the end are TOKENS.
        put(x, "sleep 12345");
        is("back(1)", x.back(1), 10);
        is("\"sleep 1234\"", x.read(), 1);
        is("its end", x.place(), 10);
        put(x, "guard abcdefghi");
        is("back(1)", x.back(1), 14);
        is("\"guard abcdefgh\"", x.read(), 1);
        is("its end", x.place(), 14);
        put(x, "abc");
        is("all of them", x.back(3), 0);
        is("nothing is left", x.read(), 0);
    }

    private static void backRefused() {
        sentence("3: NONE, and nothing goes, if it has not so many, or n is below 0.");
        SandGuards x = new SandGuards();
        is("back(0) of nothing", x.back(0), 0);
        is("back(1) of nothing", x.back(1), NONE);
        put(x, "sleep 7;");
        for (int n : new int[] {9, -1, LEAST, GREATEST}) {
            is("back(" + n + ") of 8", x.back(n), NONE);
            is("bytes", x.count(8), 8);
        }
        is("all is there", x.read(), 0);
        is("sleep", x.count(5), 7);
        put(x, "sleep 7;");
        is("back(8) of 8", x.back(8), 0);
    }

    private static void readEmptiesTape() {
        sentence("4: The tape, which is empty then, is read: 0, or the number of its FAULT.");
        SandGuards x = new SandGuards();
        String[] texts = {"sleep 1;", "?", guards(13), "guard a;guard a;", "guard a at b;", "post a 1000 0 0;"};
        for (int number = 0; number < texts.length; number++) {
            put(x, texts[number]);
            is(texts[number], x.read(), number);
            is("bytes", x.count(8), 0);
        }
        is("an empty tape", x.read(), 0);
    }

    private static void placeOfLatest() {
        sentence("5: The byte of the latest read()'s FAULT; NONE without.");
        SandGuards x = new SandGuards();
        is("without a read", x.place(), NONE);
        put(x, "?");
        is("before it is read", x.place(), NONE);
        x.read();
        is("the first byte", x.place(), 0);
        put(x, "guard a;guard a;");
        is("the one ahead", x.place(), 0);
        x.read();
        is("the latest", x.place(), 14);
        x.run(1);
        is("still", x.place(), 14);
        x.read();
        is("without", x.place(), NONE);
    }

    private static void textOfTwoThousand() {
        sentence("Terms: A TEXT has 2,000 bytes at most.");
        String text = times(" ", 1992) + "sleep 7;";
        well(text);
        is("the last byte is read", told(text).count(5), 7);
        fault(times(" ", 1999) + "?", 1, 1999);
        fault(times(" ", 1995) + "sleep", 1, 2000);
        fault("sleep 7" + times(" ", 1993), 1, 2000);
    }

    private static void blanks() {
        sentence("Terms: TOKENS with blanks (9, 10, 13, 32) between or not");
        for (char sign = 0; sign < 256; sign++) {
            boolean isBlank = sign == 9 || sign == 10 || sign == 13 || sign == 32;
            boolean isDigit = sign >= '0' && sign <= '9';
            boolean isLetter = sign >= 'a' && sign <= 'z';
            String text = "sleep" + sign + "7;";
            if (isBlank || isDigit) {
                well(text);
            } else {
                fault(text, 1, isLetter ? 0 : 5);
            }
            text = sign + "sleep 7;" + sign;
            if (isBlank) {
                well(text);
            } else {
                fault(text, 1, 0);
            }
        }
        well("post a1 2 3;guard g at a;damp1 2;sleep3;flow=if 1<2then 3else 4;");
        well(" \t\r\npost\t\ta\r1\n2 \r\n3\t;\n");
    }

    private static void longestTokens() {
        sentence("Terms: TOKENS, the longest that can be");
        fault("posta 1 2 3;", 1, 0);
        fault("guardg;", 1, 0);
        fault("post a 1 2 3;guard g ata;", 1, 21);
        fault("flow=ifneck<2 then 3 else 4;", 1, 5);
        fault("flow=if neck<2 then 3 elseneck;", 1, 22);
        well("flow=if1<2then3else4;");
        is("one INT of 34", told("damp 34;").count(6), 1);
        is("an INT of 3 and one of 4", told("damp 3 4;").count(6), 2);
    }

    private static void names() {
        sentence("Terms: NAMES (letters a .. z, 8 at most); a longer one, all else, is no TOKEN");
        well("guard a;guard z;guard az;");
        for (char sign : new char[] {'a' - 1, 'z' + 1, 'A', 'Z', '0', '_', 0, 127, 128, 225, 255}) {
            fault("guard " + sign + ";", 1, 6);
            fault("guard a" + sign + ";", 1, 7);
        }
        well("guard abcdefgh;");
        fault("guard abcdefghi;", 1, 6);
        fault("guard abcdefghabcdefgh;", 1, 6);
        well("guard abcdefgh;guard abcdefgi;guard bbcdefgh;guard abcdefg;");
        fault("guard abcdefgh;guard abcdefgh;", 3, 21);
        fault("guard" + times("q", 1900) + ";", 1, 0);
    }

    private static void namesAreNoWords() {
        sentence("Terms: NAMES, none of the words in quotes");
        for (String word : WORDS) {
            fault("post " + word + " 1 1 1;", 1, 5);
            fault("guard " + word + ";", 1, 6);
            fault("post a 1 1 1;guard g at " + word + ";", 1, 24);
            well("guard " + word + "x;");
            well("guard x" + word + ";");
            well("guard " + word.substring(0, word.length() - 1) + ";");
            well("guard " + word.substring(1) + ";");
        }
        well("guard tell;guard text;guard name;guard int;guard var;guard unit;guard part;guard e;");
    }

    private static void ints() {
        sentence("Terms: INTS (1 to 4 digits); a longer one, all else, is no TOKEN");
        is("1 digit", told("sleep 0;").count(5), 0);
        is("1 digit", told("sleep 9;").count(5), 9);
        is("4 digits", told("sleep 9999;").count(5), 9999);
        is("4 digits", told("sleep 0010;").count(5), 10);
        is("4 digits", told("sleep 0000;").count(5), 0);
        fault("sleep 00000;", 1, 6);
        fault("sleep 10000;", 1, 6);
        fault("sleep 99999999999999999999;", 1, 6);
        fault("sleep 4294967296;", 1, 6);
        fault("damp 1 00001;", 1, 7);
        fault("sleep :;", 1, 6);
        fault("sleep 1:;", 1, 7);
        fault("flow=" + times("1", 1900) + ";", 1, 5);
    }

    private static void signs() {
        sentence("Terms: SIGNS ; = + - * / < ( ) .. all else, is no TOKEN");
        for (char sign = 0; sign < 256; sign++) {
            boolean isBlank = sign == 9 || sign == 10 || sign == 13 || sign == 32;
            boolean isDigit = sign >= '0' && sign <= '9';
            boolean joins = sign == '+' || sign == '-' || sign == '*' || sign == '/';
            String text = "flow=1" + sign + "2;";
            if (joins || isDigit) {
                well(text);
            } else {
                fault(text, 1, isBlank || sign == ';' ? 7 : 6);
            }
            text = "flow=if 1" + sign + "2 then(3)else 4;";
            if (sign == '<') {
                well(text);
            } else {
                fault(text, 1, isBlank ? 10 : joins || isDigit ? 12 : 9);
            }
        }
    }

    private static void textIsAnyTells() {
        sentence("Terms: text: {TELL}.");
        well("");
        well(" ");
        well("sleep 1;");
        well("sleep 1;guard g;damp 1;post a 1 1 1;flow=1;guard h at a;sleep 2;damp;flow=2;");
        fault(";", 1, 0);
        fault("sleep 1;;", 1, 8);
        for (String start : new String[] {"at", "if", "then", "else", "neck", "wet", "above", "below", "minute", "x", "1", "=", "+", "-",
            "*", "/", "<", "(", ")"}) {
            fault(start, 1, 0);
            fault("damp;" + start, 1, 5);
        }
    }

    /** Each TELL goes on with no end of the text, and with nothing that is no TOKEN, ahead of its ; . */
    private static void tellsCutShort() {
        sentence("FAULTS: 1 SYNTAX: a TOKEN, or what is none, with which no text goes on.");
        String[] tells = {"post a 1 2 3 ;", "guard g ;", "guard g at p ;", "damp ;", "damp 1 2 ;", "sleep 1 ;", "flow = 1 ;",
            "flow = if 1 < 2 then 3 else 4 ;", "flow = if neck + 1 < wet * ( 2 - above ) then below / 3 else if minute < post then 1 else 2 ;",
            "flow = ( ( 1 ) + 2 ) * 3 ;"};
        for (String tell : tells) {
            String[] tokens = ("post p 1 1 1 ; " + tell).split(" ");
            String text = "";
            for (int i = 0; i < tokens.length; i++) {
                if (i > 6) {
                    fault(text, 1, text.length());
                    fault(text + "?", 1, text.length());
                    fault(text + "flow ", 1, text.length());
                }
                text += tokens[i] + " ";
            }
            well(text);
        }
        String post = "post p 1 1 1;";
        for (String text : new String[] {"post^1 1 1;", "post p^;", "post p 1^;", "post p 1 1^;", "post p 1 1 1^post", "^p 1 1 1;",
            "guard^;", "guard^at p;", "guard g^p;", "guard g at^;", post + "guard g at p^at p;", "damp 1^at", "damp 1^damp;", "sleep^;",
            "sleep 1^sleep", "flow^1;", "flow =^;", "flow = 1^flow", "flow = if^< 2 then 3 else 4;", "flow = if 1^2 then 3 else 4;",
            "flow = if 1 <^then 3 else 4;", "flow = if 1 < 2^3 else 4;", "flow = if 1 < 2 then^else 4;", "flow = if 1 < 2 then 3^4;",
            "flow = if 1 < 2 then 3 else^;", "flow = 1^1 < 2 then 3 else 4;", "flow = (^);", "flow = (1^;", "flow = 1^);",
            "flow = 1 +^+ 2;", "flow = 1 *^/ 2;", "flow = 1^neck;", "flow = neck^1;"}) {
            int place = text.indexOf('^');
            fault(text.replace("^", " "), 1, place == 0 ? 1 : place + 1);
        }
        fault("flow=+1;", 1, 5);
        fault("flow=-1;", 1, 5);
        fault("flow=1+;", 1, 7);
        fault("flow=1*;", 1, 7);
        fault("flow=1+*2;", 1, 7);
        fault("flow=();", 1, 6);
        fault("flow=1);", 1, 6);
        fault("flow=(1;", 1, 7);
        fault("flow=(1<2);", 1, 7);
        fault("flow=2(3);", 1, 6);
        fault("flow=(2)3;", 1, 8);
        fault("flow=1 if 2<3 then 4 else 5;", 1, 7);
        fault("flow=if 1<2<3 then 4 else 5;", 1, 11);
        fault("flow=if 1<2 then if 1<2 then 3 else 4 else 5;", 1, 17);
        fault("flow=if 1<2 then 3;", 1, 18);
        fault("flow=if (1<2) then 3 else 4;", 1, 10);
        fault("flow=guard;", 1, 5);
        fault("flow=a;", 1, 5);
        fault("post 1 1 1 1;", 1, 5);
        fault("post a a 1 1;", 1, 7);
        fault("post a 1 1 1 1;", 1, 13);
        fault("guard g h;", 1, 8);
        fault("guard g at p q;", 1, 13);
        fault("sleep 1 1;", 1, 8);
        fault("damp 1+1;", 1, 6);
    }

    private static void optionalParts() {
        sentence("Terms: ['at' NAME], {INT}, {'if' ..}, {('+' | '-') PART}, {('*' | '/') UNIT} none of them, one, many");
        well("post a 1 1 1;guard g;guard h at a;");
        well("damp;damp 1;damp 1 2 3;");
        well("flow=1;flow=if 1<2 then 3 else 4;flow=if 1<2 then 3 else if 1<2 then 3 else 4;");
        well("flow=1+2;flow=1-2+3-4;flow=1*2;flow=1/2*3/4;flow=1+2*3;flow=(1);flow=(1+2)*(3);flow=neck;flow=wet+above*below/minute-post;");
    }

    private static void mostPosts() {
        sentence("Terms: POSTS, 8 at most, numbered from 0 on; 2 ROOM: a 9th post (at its first TOKEN)");
        SandGuards x = told(posts(8));
        is("posts", x.count(0), 8);
        is("the last one", x.post(7, 1), 2);
        is("no 9th", x.post(8, 1), NONE);
        fault(posts(9), 2, posts(8).length());
        fault(posts(8) + " post", 2, posts(8).length() + 1);
        fault(posts(8) + guards(3) + "post ?", 2, posts(8).length() + guards(3).length());
        fault(times("post a 1 2 3;", 9), 2, 8 * 13);
        fault(times("post a 1 2 3;", 8), 3, 13 + 5);
        // Told anew they are counted anew.
        put(x, posts(8));
        is("8 again", x.read(), 0);
    }

    private static void mostGrains() {
        sentence("Terms: grains ABOVE and BELOW 0 .. 999 each; 5 WRONG (at the INT)");
        glass(told("post a 0 999 1;"), 0, 0, 999);
        glass(told("post a 999 0 1;"), 0, 999, 0);
        fault("post a 1000 0 1;", 5, 7);
        fault("post a 0 1000 1;", 5, 9);
        fault("post a 9999 0 1;", 5, 7);
        fault("post a 0 9999 1;", 5, 9);
        fault("post a 1000 1000 100;", 5, 7);
    }

    private static void mostNeck() {
        sentence("Terms: NECK 0 .. 99; 5 WRONG (at the INT)");
        is("neck 0", told("post a 999 0 0;").post(0, 5), 0);
        is("neck 99", told("post a 999 0 99;").post(0, 5), 99);
        fault("post a 999 999 100;", 5, 15);
        fault("post a 0 0 9999;", 5, 11);
    }

    private static void mostGuards() {
        sentence("Terms: GUARDS, 12 at most, numbered from 0 on; 2 ROOM: a 13th guard (at its first TOKEN)");
        SandGuards x = told(guards(12));
        is("guards", x.count(1), 12);
        is("the last one", x.guard(11, 3), 11);
        is("no 13th", x.guard(12, 3), NONE);
        fault(guards(13), 2, guards(12).length());
        fault(guards(12) + " guard", 2, guards(12).length() + 1);
        fault(guards(12) + posts(8) + "guard guard", 2, guards(12).length() + posts(8).length());
        fault(times("guard a;", 13), 2, 12 * 8);
        fault(times("guard a;", 12), 3, 8 + 6);
        well(posts(8) + guards(12));
    }

    private static void flowIfNotTold() {
        sentence("Terms: FLOW: a law (neck, if not told; the last one)");
        SandGuards x = told("post a 999 0 7;flow=1;");
        is("told", x.post(0, 5), 1);
        put(x, "post a 999 0 7;");
        is("read()", x.read(), 0);
        is("not told", x.post(0, 5), 7);
        is("the last one", told("flow=1;post a 999 0 7;flow=2;damp;flow=if 1<2 then 3 else 4;").post(0, 5), 3);
        is("the last one", told("post a 999 0 7;flow=if 1<2 then 3 else 4;flow=neck+1;").post(0, 5), 8);
        is("nothing of the one ahead", told("post a 999 0 7;flow=if 2<1 then 3 else 4;flow=8/2+1;").post(0, 5), 5);
    }

    private static void mostDamp() {
        sentence("Terms: DAMP: numbers 0 .. 99; 5 WRONG (at the INT)");
        is("0", told("post a 999 0 7;flow=wet;damp 0;").post(0, 5), 0);
        is("99", told("post a 999 0 7;flow=wet;damp 99;").post(0, 5), 99);
        fault("damp 100;", 5, 5);
        fault("damp 0 99 100 101;", 5, 10);
        fault("damp 9999;damp 1;", 5, 5);
        fault("damp" + times(" 99", 23) + " 100;", 5, 4 + 23 * 3 + 1);
    }

    private static void mostDampNumbers() {
        sentence("Terms: DAMP: 24 numbers at most; 2 ROOM: a 25th number of a damp (at it)");
        String day = "damp" + times(" 1", 24);
        is("24", told(day + ";").count(6), 24);
        fault(day + " 1;", 2, day.length() + 1);
        fault(day + " 100", 2, day.length() + 1);
        fault(day + " 10000;", 1, day.length() + 1);
        fault(day, 1, day.length());
        fault("damp" + times(" 100", 25) + ";", 2, 4 + 24 * 4 + 1);
        is("of a damp", told(day + ";" + day + ";").count(6), 24);
    }

    private static void dampIfNotTold() {
        sentence("Terms: DAMP: none: 0; the last row told");
        SandGuards x = told("post a 999 0 7;flow=wet+5;damp 1 2;damp 3 4 5;");
        is("numbers", x.count(6), 3);
        is("the last row", x.post(0, 5), 8);
        put(x, "post a 999 0 7;flow=wet+5;damp 3 4;damp;");
        is("read()", x.read(), 0);
        is("numbers", x.count(6), 0);
        is("none", x.post(0, 5), 5);
        put(x, "post a 999 0 7;flow=wet+5;damp 3 4;");
        is("read()", x.read(), 0);
        put(x, "post a 999 0 7;flow=wet+5;");
        is("read()", x.read(), 0);
        is("not told", x.count(6), 0);
        is("not told", x.post(0, 5), 5);
    }

    private static void sleepTold() {
        sentence("Terms: SLEEP: 0 .. 9999 (60; the last one)");
        is("0", told("sleep 0;").count(5), 0);
        is("9999", told("sleep 9999;").count(5), 9999);
        fault("sleep 10000;", 1, 6);
        is("the last one", told("sleep 9999;sleep 1;damp;sleep 5;").count(5), 5);
        SandGuards x = told("sleep 5;");
        put(x, "damp;");
        is("read()", x.read(), 0);
        is("not told", x.count(5), 60);
    }

    private static void firstByPlace() {
        sentence("FAULTS of a text, the first by its place");
        fault("? ?", 1, 0);
        fault("x " + guards(13), 1, 0);
        fault(guards(12) + "?guard x;", 1, guards(12).length());
        fault(guards(13) + "?", 2, guards(12).length());
        fault("flow=(((((((1;damp" + times(" 1", 25) + ";", 2, 11);
        fault("damp" + times(" 1", 25) + ";flow=(((((((1;", 2, 4 + 24 * 2 + 1);
        fault("post a 1 1 1;post a 1000 1 1;", 3, 18);
        fault("post a 1000 1 1;post a 1 1 1;", 5, 7);
        fault("guard g at b;guard g;", 4, 11);
        fault("guard g;guard g at b;", 3, 14);
        fault("post a 1 1 100;guard g at b;", 5, 11);
        fault("guard g at b;damp 100;", 4, 11);
    }

    private static void textsEnd() {
        sentence("FAULTS: its place (a byte; the text's end: its length)");
        fault("post", 1, 4);
        fault("post \n", 1, 6);
        fault("guard g", 1, 7);
        fault("guard g at a   ", 1, 15);
        fault("flow=(1", 1, 7);
        fault("flow=1" + times("+1", 198), 1, 6 + 2 * 198);
    }

    private static void ofOnePlaceTheLeast() {
        sentence("FAULTS: of one place the least");
        // 400 TOKENS; with the 401st no text goes on, or it is none.
        String full = "flow=1" + times("+1", 198) + ";";
        for (String next : new String[] {"1", ";", "x", "at", "?", "12345", "abcdefghi", "(", "="}) {
            fault(full + next, 1, full.length());
        }
        fault(full + "post", 2, full.length());
        String open = "flow=1" + times("+1", 198) + "+";
        fault(open + ";", 1, open.length());
        fault(open + "*", 1, open.length());
        fault(open + "1", 2, open.length());
        fault(open + "(", 2, open.length());
        fault(open, 1, open.length());
    }

    private static void mostTokens() {
        sentence("FAULTS: 2 ROOM: a 401st TOKEN");
        String full = "flow=1" + times("+1", 198) + ";";
        well(full);
        well(full + "  \t");
        for (String next : new String[] {"post", "guard", "flow", "damp", "sleep"}) {
            fault(full + " " + next, 2, full.length() + 1);
            fault(full + " " + next + " ?", 2, full.length() + 1);
        }
        // Two TOKENS ahead of the same law: its last two are too many.
        String two = "damp;flow=1" + times("+1", 197);
        well(two + ";");
        fault(two + "+1;", 2, two.length() + 1);
        fault(two + "+1", 2, two.length() + 1);
        well(times("damp;", 200));
        fault(times("damp;", 201), 2, 1000);
        well(times("sleep 1;", 133));
        fault(times("sleep 1;", 134), 2, 133 * 8 + 6);
        well(times("damp;", 199) + "damp;");
        fault(times("damp;", 199) + "sleep 1;", 2, 995 + 7);
        fault(times("damp;", 199) + "damp 1", 1, 995 + 6);
        fault(times("damp;", 199) + "damp 1;", 2, 995 + 6);
        fault(times("damp;", 198) + "guard g;guard g;", 2, 990 + 14);
        fault(times("damp;", 197) + "guard g;guard g;", 3, 985 + 14);
    }

    /** TELLS of just so many TOKENS, 2 and more. */
    private static String tellsOf(int tokens) {
        return (tokens % 2 == 1 ? "sleep 1;" : "") + times("damp;", (tokens - tokens % 2 * 3) / 2);
    }

    private static void eachTokenTooMany() {
        sentence("FAULTS: 2 ROOM: a 401st TOKEN, whichever it is");
        String[] tokens = ("post p 1 2 3 ; guard g ; guard h at p ; damp 1 2 ; sleep 1 ; flow = 1 ; flow = if neck + 1 < wet * ( 2 - above ) "
            + "then below / 3 else if minute < post then 1 else 2 ;").split(" ");
        for (int at = 0; at < tokens.length; at++) {
            StringBuilder text = new StringBuilder(tellsOf(400 - at));
            for (int i = 0; i < at; i++) {
                text.append(tokens[i]).append(' ');
            }
            int place = text.length();
            fault(text + tokens[at], 2, place);
            for (int i = at; i < tokens.length; i++) {
                text.append(tokens[i]).append(' ');
            }
            fault(text.toString(), 2, place);
        }
        String all = String.join(" ", tokens);
        well(tellsOf(400 - tokens.length) + all);
        fault(tellsOf(401 - tokens.length) + all, 2, tellsOf(401 - tokens.length).length() + all.length() - 1);
    }

    private static void roomAtFirstToken() {
        sentence("FAULTS: a 9th post, a 13th guard (at its first TOKEN), a 25th number of a damp (at it)");
        String text = posts(8) + guards(12);
        well(text);
        fault(text + "\npost x 1 1 1;guard x;", 2, text.length() + 1);
        fault(text + "\nguard x;post x 1 1 1;", 2, text.length() + 1);
        fault(text + "posts", 1, text.length());
        fault(text + "guards", 1, text.length());
        well(text + "flow=post+1;damp" + times(" 7", 24) + ";");
        fault(text + "flow=post+1;damp" + times(" 7", 25) + ";", 2, text.length() + 12 + 4 + 24 * 2 + 1);
    }

    private static void fifthIf() {
        sentence("FAULTS: a 5th if (at it)");
        String four = "flow=" + times("if 1<2 then 3 else ", 4);
        well(four + "4;");
        well(four + "4;" + four + "4;");
        fault(four + "if 1<2 then 3 else 4;", 2, four.length());
        fault(four + " if", 2, four.length() + 1);
        fault(four + "if ?", 2, four.length());
        fault(four + "then", 1, four.length());
        fault(four, 1, four.length());
    }

    private static void seventhBracket() {
        sentence("FAULTS: a 7th ( within one another (at it)");
        well("flow=((((((1))))));");
        fault("flow=(((((((1)))))));", 2, 11);
        fault("flow=(((((( (", 2, 12);
        fault("flow=(((((((", 2, 11);
        well("flow=((((((1))))))+((((((2))))))*((((((3))))));");
        well("flow=(((((1+(2))*(3)-(4)))));");
        fault("flow=(((((1+(2+(3))))));", 2, 15);
        well("flow=(1)+(2)+(3)+(4)+(5)+(6)+(7)+(8);");
        String six = "((((((1))))))";
        well("flow=if " + six + "<" + six + " then " + six + " else " + six + ";");
        fault("flow=if " + six + "<(" + six, 2, 8 + 13 + 1 + 6);
        fault("flow=((((((1(", 1, 12);
    }

    private static void syntaxAndRoomFirst() {
        sentence("FAULTS: If there is none, likewise: 3, 4, 5");
        String[] slips = {"guard a;guard a;", "guard a at b;", "damp 100;", "post a 1000 0 0;", "post a 0 0 0;guard g at a;guard h at a;"};
        for (String slip : slips) {
            fault(slip + "?", 1, slip.length());
            fault(slip + "sleep", 1, slip.length() + 5);
            fault(slip + "flow=(((((((1", 2, slip.length() + 11);
            fault(slip + "damp" + times(" 1", 25), 2, slip.length() + 4 + 24 * 2 + 1);
        }
    }

    private static void twiceNames() {
        sentence("FAULTS: 3 TWICE: a NAME told already (POSTS and GUARDS together)");
        fault("post a 1 1 1;post a 1 1 1;", 3, 18);
        fault("guard a;guard a;", 3, 14);
        fault("post a 1 1 1;guard a;", 3, 19);
        fault("guard a;post a 1 1 1;", 3, 13);
        fault("post a 1 1 1;guard a at a;", 3, 19);
        String all = posts(8) + guards(11);
        for (int i = 0; i < 8; i++) {
            fault(all + "guard p" + (char) ('a' + i) + ";", 3, all.length() + 6);
        }
        for (int i = 0; i < 11; i++) {
            fault(all + "guard g" + (char) ('a' + i) + ";", 3, all.length() + 6);
        }
        well(all + "guard gl;");
        // A text ahead has no say in it.
        SandGuards x = told("guard a;");
        put(x, "guard a;");
        is("told anew", x.read(), 0);
    }

    private static void twicePosts() {
        sentence("FAULTS: 3 TWICE: (at the POST's NAME) a POST where a GUARD is already.");
        fault("post a 1 1 1;guard g at a;guard h at a;", 3, 37);
        well("post a 1 1 1;post b 1 1 1;guard g at a;guard h at b;");
        well("post a 1 1 1;post b 1 1 1;guard g at b;guard h at a;guard i;");
        fault("post a 1 1 1;post b 1 1 1;guard g at b;guard h at a;guard i at b;", 3, 63);
    }

    private static void unknownPosts() {
        sentence("FAULTS: 4 NAME: no such POST told ahead.");
        fault("guard g at a;", 4, 11);
        fault("guard g at a;post a 1 1 1;", 4, 11);
        fault("guard h;guard g at h;", 4, 19);
        fault("guard g at g;", 4, 11);
        fault("post a 1 1 1;guard g at aa;", 4, 24);
        well("post a 1 1 1;guard g at a;");
        SandGuards x = told(posts(8) + "guard g at ph;");
        is("the last post", x.guard(0, 0), 7);
        put(x, "guard g at ph;");
        is("of the text ahead", x.read(), 4);
        for (int post = 7; post >= 1; post--) {
            String text = posts(post) + "guard g at p" + (char) ('a' + post) + ";";
            put(x, text);
            is("of the text ahead, not of this one", x.read(), 4);
            is("its place", x.place(), text.length() - 3);
        }
    }

    private static void wrongNumbers() {
        sentence("FAULTS: 5 WRONG (at the INT): a number not as told above.");
        fault("post a  1000 1 1;", 5, 8);
        fault("post a 999\t1000 1;", 5, 11);
        fault("post a 999 999\n100;", 5, 15);
        fault("damp 1  100;", 5, 8);
        well("post a 0999 0999 0099;damp 0099;sleep 9999;flow=9999*9999;");
    }

    private static void faultChangesNothing() {
        sentence("FAULTS: A text with a FAULT changes nothing but the tape");
        String[] texts = {"post q 9 9 9;guard r at q;flow=0;damp 7;sleep 9;?", "sleep 9;flow=0;damp 7;" + guards(13),
            "flow=0;damp 7;sleep 9;guard r;guard r;", "flow=0;damp 7;sleep 9;guard r at q;", "flow=0;sleep 9;damp 100;"};
        for (int i = 0; i < texts.length; i++) {
            SandGuards x = told(RING + "damp 1 2;flow=neck+wet;");
            x.tell(2, 1);
            x.run(2);
            x.dry(0, true);
            x.pinch(1, 5);
            x.hold(2);
            x.turn(2);
            String before = state(x);
            int ways = x.tampered(5, 1, NONE);
            put(x, texts[i]);
            is(texts[i], x.read(), i + 1);
            same("the castle", state(x), before);
            is("tampered", x.tampered(5, 1, NONE), ways);
            is("where", x.where(0, 9), goneOn(0, 9));
            is("undo", x.undo(), true);
            is("restore", x.restore(2), true);
        }
    }

    private static void faultIsForgotten() {
        sentence("FAULTS: A text with a FAULT changes nothing: what it told is in no other text");
        SandGuards x = new SandGuards();
        for (int i = 0; i < 30; i++) {
            put(x, "guard g;flow=2*(3+4/(5-");
            is("broken", x.read(), 1);
        }
        put(x, "post g 999 0 0;flow=if neck<1 then 40-2*3 else 5;");
        is("well", x.read(), 0);
        is("flow", x.post(0, 5), 34);
        put(x, "guard g at a;damp 7;sleep 9;");
        is("broken", x.read(), 4);
        put(x, "guard g;post a 999 0 7;");
        is("well", x.read(), 0);
        same("the last one alone", state(x), "1,1,0,1,1,60,0,999,0,0,0,0,0;999,0,-2,0,0,7,0;-2,0,0,0,0;");
    }

    /** Where a guard of the castle above is so many minutes later, if no text comes between. */
    private static int goneOn(int guard, int minutes) {
        SandGuards x = told(RING + "damp 1 2;flow=neck+wet;");
        x.run(2);
        x.dry(0, true);
        x.pinch(1, 5);
        x.turn(2);
        x.run(minutes);
        return x.guard(guard, 0);
    }

    private static void textInPlace() {
        sentence("FAULTS: else it is in place of the one ahead: minute 0, nothing is dried, none has slept, nothing can be undone, "
            + "nothing is TOLD, SLOTS hold nothing.");
        SandGuards x = told(RING);
        String fresh = state(x);
        x.run(100);
        x.dry(0, true);
        x.dry(2, true);
        x.pinch(1, 5);
        x.shake(0, 1);
        x.tell(0, 3);
        x.hold(0);
        x.hold(1);
        x.hold(2);
        put(x, RING);
        is("read()", x.read(), 0);
        same("the same text again", state(x), fresh);
        is("undo", x.undo(), false);
        for (int slot = 0; slot < 3; slot++) {
            is("restore(" + slot + ")", x.restore(slot), false);
        }
        is("forget", x.forget(), 0);
        // The longest law there can be, text by text: it takes its room anew each time.
        for (int i = 1; i <= 4; i++) {
            put(x, "post a 999 0 1;flow=" + i + times("+1", 195) + ";");
            is("read()", x.read(), 0);
            is("flow", x.post(0, 5), 195 + i);
        }
        is("the empty text", x.read(), 0);
        same("the empty text", state(x), "0,0,0,0,0,60,0,0,0,0,0,0,0;");
        is("no post", x.post(0, 0), NONE);
        is("no guard", x.guard(0, 0), NONE);
    }
}
