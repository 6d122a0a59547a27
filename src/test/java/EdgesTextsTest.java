/** Edges of promises 26 to 30, and of head 4 of the terms: the tape, texts, their faults and what they give. */
public final class EdgesTextsTest extends Cases {
    private static final String[] KEYS = {"pour", "back", "fine"};
    private static final String[] NAMES = {"pdx", "dfw", "hs"};

    public static void main(String[] args) throws ReflectiveOperationException {
        run(EdgesTextsTest.class);
    }

    private static void sound(String bytes) {
        is("[" + bytes + "]", newText(bytes), 0);
    }

    private static void faulty(String bytes, int place) {
        is("[" + bytes + "]", newText(bytes), -100 - place);
    }

    // ---- promise 26: feed

    static void p26_upTo96Bytes() {
        SandPicture x = new SandPicture();
        for (int i = 1; i <= 8; i++) {
            is("how many it has", x.feed(0, 0, 0), 12 * i);
        }
        is("would be 108", x.feed(0, 0, 0), FULL);
    }

    static void p26_fullFrom85On() {
        for (int had = 82; had <= 96; had++) {
            SandPicture x = new SandPicture();
            for (int i = 0; i < 8; i++) {
                x.feed(0, 0, 0);
            }
            x.trim(had);
            is("had " + had, x.feed(0, 0, 0), had <= 84 ? had + 12 : FULL);
            is("has then", x.count(6), had <= 84 ? had + 12 : had);
        }
    }

    private static SandPicture tapeOf85() {
        SandPicture x = Twins.rich();
        x.trim(0);
        Due.tape(x, "fine 1" + "+1".repeat(39) + " ");
        is("85", x.count(6), 85);
        return x;
    }

    static void p26_fullChangesNothing() {
        SandPicture one = tapeOf85();
        is("full", one.feed(LOW, HIGH, -1), FULL);
        alike("full", one, tapeOf85());
    }

    static void p26_theHighestOfEachFirst() {
        SandPicture x = new SandPicture();
        x.feed('f' << 24 | 'i' << 16 | 'n' << 8 | 'e', ' ' << 24 | '1' << 16 | '2' << 8 | '3', '4' << 24 | '-' << 16 | '5' << 8 | '6');
        is("text", x.text(), 0);
        is("1234 - 56", x.fine(), 1178);
    }

    static void p26_bytesAbove127() {
        for (int b : new int[] {128, 160, 255}) {
            SandPicture x = new SandPicture();
            x.feed(b << 24 | 0x202020, 0x20202020, 0x20202020);
            is("first", x.text(), -100);
            x.feed(0x66696e65, 0x20202020, 0x20202000 | b);
            is("last", x.text(), -111);
        }
    }

    static void p26_behindTrimItGoesOnThere() {
        SandPicture x = new SandPicture();
        x.feed(0x66696e65, 0x20393939, 0x39393939);
        x.trim(6);
        is("18", x.feed(0x2b312020, 0x20202020, 0x20202020), 18);
        is("text", x.text(), 0);
        is("9+1", x.fine(), 10);
    }

    // ---- promise 27: trim

    static void p27_n() {
        range("n", 0, 24, (x, v) -> x.trim(v));
    }

    static void p27_anEmptyTape() {
        SandPicture x = new SandPicture();
        is("0", x.trim(0), 0);
        is("1", x.trim(1), BAD);
        is("-1", x.trim(-1), BAD);
    }

    static void p27_aFullTape() {
        SandPicture x = new SandPicture();
        for (int i = 0; i < 8; i++) {
            x.feed(0, 0, 0);
        }
        is("97", x.trim(97), BAD);
        is("96", x.trim(96), 96);
        is("95", x.trim(95), 95);
        is("96 no more", x.trim(96), BAD);
    }

    static void p27_allOfIt() {
        onlyTells("all 24", x -> x.trim(24));
    }

    static void p27_keepsItsFirstBytes() {
        SandPicture x = new SandPicture();
        Due.tape(x, "fine 4321");
        x.trim(7);
        x.text();
        is("43", x.fine(), 43);
    }

    // ---- promise 28: text

    static void p28_faultAt0() {
        is("an empty tape", new SandPicture().text(), -100);
        faulty("?", 0);
    }

    static void p28_faultAtTheEndOfAFullTape() {
        faulty("pour  " + "1+".repeat(45), 96);
        faulty("pour" + " ".repeat(92), 96);
        faulty(" ".repeat(96), 96);
    }

    static void p28_faultInTheLastByteOfAFullTape() {
        faulty("pour " + "1+".repeat(45) + "?", 95);
        faulty("pour 1" + " ".repeat(89) + "1", 95);
    }

    static void p28_aTextOf96Bytes() {
        SandPicture x = new SandPicture();
        is("text", Due.text(x, "fine " + "1+".repeat(45) + "1"), 0);
        is("46 ones", x.fine(), 46);
        is("46 numbers", x.textTold(0, 1), 46);
    }

    static void p28_theLastWordEndsWithTheTape() {
        SandPicture x = new SandPicture();
        is("text", Due.text(x, " ".repeat(87) + "fine 9876"), 0);
        is("all its digits", x.fine(), 9876);
        faulty(" ".repeat(86) + "fine 98765", 91);
    }

    private static SandPicture with14() {
        SandPicture x = Twins.rich();
        int tape = x.trim(24);
        is("the tape", tape, 24);
        x.text();
        for (int i = 5; i < 14; i++) {
            is("its number", Due.text(x, "pour " + i), i);
        }
        return x;
    }

    static void p28_fullAtTheFifteenth() {
        SandPicture x = with14();
        is("full", Due.text(x, "fine 5"), FULL);
        is("14", x.count(4), 14);
        is("the last one", x.textTold(13, 0), 0);
        is("no fifteenth", x.textTold(14, 0), BAD);
    }

    static void p28_fullChangesNothingButTheTape() {
        SandPicture one = with14();
        Due.tape(one, "back 5*f");
        is("full", one.text(), FULL);
        is("used up", one.count(6), 0);
        alike("full", one, with14());
    }

    static void p28_faultAheadOfFull() {
        SandPicture x = with14();
        is("fault", Due.text(x, "fine 5+"), -107);
        is("an empty tape", x.text(), -100);
        is("full", Due.text(x, "fine 5"), FULL);
    }

    static void p28_faultChangesNothingButTheTape() {
        for (String bytes : new String[] {"", "fine", "fine 1+", "back d)", "pour 1 2", "pour 12345", "zzz"}) {
            SandPicture one = Twins.rich();
            one.trim(0);
            Due.tape(one, bytes);
            is("a fault", one.text() <= -100 ? 1 : 0, 1);
            is("used up", one.count(6), 0);
            SandPicture other = Twins.rich();
            other.trim(0);
            alike("[" + bytes + "]", one, other);
        }
    }

    static void p28_aSoundTextUsesTheTapeUp() {
        SandPicture x = Twins.rich();
        is("its number", x.text(), 4);
        is("used up", x.count(6), 0);
        is("nothing to read", x.text(), -100);
    }

    static void p28_numbersGoOnBehindAFault() {
        SandPicture x = new SandPicture();
        is("0", Due.text(x, "fine 1"), 0);
        is("a fault", Due.text(x, "fine +"), -105);
        is("1", Due.text(x, "fine 2"), 1);
        is("the last one", x.fine(), 2);
    }

    static void p28_roomAgainBehindBack() {
        SandPicture x = new SandPicture();
        for (int i = 0; i < 13; i++) {
            Due.text(x, "fine " + i);
        }
        x.keep();
        is("the last", Due.text(x, "fine 77"), 13);
        is("full", Due.text(x, "fine 78"), FULL);
        is("which counts", x.fine(), 77);
        x.back();
        is("which counts", x.fine(), 12);
        is("the last again", Due.text(x, "fine 79"), 13);
        is("which counts", x.fine(), 79);
    }

    // ---- promises 29, 30: textTold, why

    static void p29_text() {
        range("text", 0, 3, (x, v) -> x.textTold(v, 0));
    }

    static void p29_what() {
        range("what", 0, 1, (x, v) -> x.textTold(0, v));
    }

    static void p29_noTexts() {
        is("none", new SandPicture().textTold(0, 0), BAD);
    }

    static void p29_aTextIsGoneBehindBack() {
        SandPicture x = Twins.rich();
        x.back();
        is("the last of the image", x.textTold(2, 0), 2);
        is("the one behind it", x.textTold(3, 0), BAD);
    }

    static void p29_oneNumberAlone() {
        SandPicture x = new SandPicture();
        Due.text(x, "fine !(((!!7)))");
        is("one", x.textTold(0, 1), 1);
        Due.text(x, "back d");
        is("one", x.textTold(1, 1), 1);
        is("key", x.textTold(1, 0), 1);
    }

    static void p29_aFaultLeavesNoneOfItsNumbers() {
        SandPicture x = new SandPicture();
        is("a fault behind three", Due.text(x, "fine 1+2+3+"), -111);
        is("the next", Due.text(x, "back d"), 0);
        is("its one", x.textTold(0, 1), 1);
        is("its key", x.textTold(0, 0), 1);
    }

    static void p29_onlyTells() {
        onlyTells("textTold", x -> x.textTold(3, 1));
    }

    static void p30_key() {
        range("key", 0, 2, (x, v) -> x.why(v));
    }

    static void p30_none() {
        for (int key = 0; key < 3; key++) {
            SandPicture x = new SandPicture();
            is("none", x.why(key), NONE);
            Due.text(x, KEYS[(key + 1) % 3] + " 1");
            is("another key", x.why(key), NONE);
            Due.text(x, KEYS[key] + " 1");
            is("its own", x.why(key), 1);
        }
    }

    static void p30_theLastOneCounts() {
        SandPicture x = new SandPicture();
        for (int i = 0; i < 14; i++) {
            Due.text(x, KEYS[i % 3] + " 1");
        }
        is("pour", x.why(0), 12);
        is("back", x.why(1), 13);
        is("fine", x.why(2), 11);
    }

    static void p30_aFaultDoesNotCount() {
        SandPicture x = new SandPicture();
        Due.text(x, "fine 5");
        Due.text(x, "fine 6)");
        is("the sound one", x.why(2), 0);
        is("what it gives", x.fine(), 5);
    }

    static void p30_noneAgainBehindBack() {
        SandPicture x = new SandPicture();
        x.keep();
        Due.text(x, "pour 1");
        is("0", x.why(0), 0);
        x.back();
        is("none", x.why(0), NONE);
    }

    // ---- head 4: words, signs and blanks

    static void t4_keys() {
        for (String key : KEYS) {
            sound(key + " 1");
            faulty(key, 4);
            faulty(key.substring(0, 3) + " 1", 0);
            faulty(key + "s 1", 0);
            faulty(key.toUpperCase() + " 1", 0);
            faulty(key + " " + key + " 1", 5);
        }
        faulty("1 pour", 0);
        faulty("(pour 1)", 0);
        faulty("   pou", 3);
    }

    static void t4_eachLetterOfAKeyCounts() {
        for (String key : KEYS) {
            for (int i = 0; i < 4; i++) {
                faulty(key.substring(0, i) + "z" + key.substring(i + 1) + " 1", 0);
                faulty(key.substring(0, i) + key.substring(i + 1) + " 1", 0);
                if (i > 0) {
                    faulty(key.substring(0, i) + " " + key.substring(i) + " 1", 0);
                }
            }
        }
    }

    static void t4_wordsAreOfAToZOrOf0To9() {
        for (char c : new char[] {'a', 'z'}) {
            faulty("fine" + c + " 1", 0);
            faulty(c + "fine 1", 0);
            faulty("fine 1+h" + c, 7);
        }
        for (char c : new char[] {'`', '{', 'A', 'Z', '_'}) {
            faulty("fine" + c + " 1", 4);
            faulty(c + "fine 1", 0);
            faulty("fine 1+h" + c, 8);
        }
        for (char c : new char[] {'0', '9'}) {
            faulty("fine 1+1234" + c, 7);
            faulty("fine" + c, 4);
            is("two digits", fineBy("1" + c), 10 + c - '0');
        }
        faulty("fine 1234:", 9);
        faulty("fine 1234/", 10);
    }

    static void t4_namesOfEachKeyAndNoOthers() {
        for (int key = 0; key < 3; key++) {
            for (char c = 'a'; c <= 'z'; c++) {
                if (NAMES[key].indexOf(c) >= 0) {
                    sound(KEYS[key] + " " + c);
                } else {
                    faulty(KEYS[key] + " " + c, 5);
                }
                faulty(KEYS[key] + " " + Character.toUpperCase(c), 5);
            }
        }
    }

    static void t4_aNameIsOneLetter() {
        faulty("pour pp", 5);
        faulty("pour px", 5);
        faulty("back 1+dd", 7);
        faulty("fine h+hs", 7);
    }

    static void t4_anyOtherByteIsASignByItself() {
        for (int b = 0; b < 256; b++) {
            char c = (char) b;
            boolean word = b >= 'a' && b <= 'z' || b >= '0' && b <= '9';
            if (word || b == ' ') {
                continue;
            }
            boolean opens = b == '!' || b == '(';
            boolean joins = "|&<=>+-*/".indexOf(c) >= 0;
            faulty("fine " + c, opens ? 6 : 5);
            faulty("fine" + c, opens ? 5 : 4);
            faulty("fine 1" + c, joins ? 7 : 6);
            if (b == ')') {
                sound("fine (1" + c);
            } else {
                faulty("fine (1" + c, joins ? 8 : 7);
            }
        }
    }

    static void t4_blanksMayStandBetweenAndAtTheEnds() {
        sound("fine(h+1)*(s|2)");
        sound("  fine  (  h  +  1  )  *  (  s  |  2  )  ");
        sound("fine ! ! h");
        sound("fine!!h");
        sound(" fine 1");
        sound("fine 1 ");
    }

    static void t4_onlyByte32IsABlank() {
        for (char c : new char[] {'\t', '\n', '\r', '\0', 31, 33, 160}) {
            faulty("fine 1" + c, 6);
        }
    }

    static void t4_aWordRightBehindAnotherNeedsABlank() {
        faulty("fine1", 4);
        faulty("fine 1h", 6);
        faulty("fine h1", 6);
        faulty("fine 1+h2", 8);
        faulty("fine 1234h", 9);
        sound("fine 1+h");
        sound("fine(1)");
    }

    static void t4_aWordMayNotStandBehindAPiece() {
        faulty("fine 1 h", 7);
        faulty("fine h 1", 7);
        faulty("fine h h", 7);
        faulty("fine (h)h", 8);
        faulty("fine (h)(h)", 8);
        faulty("fine h!h", 6);
        faulty("fine h(h)", 6);
    }

    static void t4_wordsAreAsLongAsTheyGo() {
        faulty("finefine 1", 0);
        faulty("fine 12 34", 8);
        faulty("fineh", 0);
    }

    static void t4_numbersOf1To4Digits() {
        int[] due = {0, 9, 99, 999, 9999};
        String[] digits = {"0", "9", "99", "999", "9999"};
        for (int i = 0; i < due.length; i++) {
            is(digits[i], fineBy(digits[i]), due[i]);
        }
        is("0000", fineBy("0000"), 0);
        is("0010", fineBy("0010"), 10);
        faulty("fine 10000", 5);
        faulty("fine 00000", 5);
        faulty("fine 00001", 5);
        faulty("fine 1+123456789", 7);
        faulty("fine 4294967297", 5);
    }

    // ---- head 4: faults by order

    static void t4_theEndIfItComesTooSoon() {
        faulty("", 0);
        faulty("     ", 5);
        faulty("fine", 4);
        faulty("fine   ", 7);
        faulty("fine 1+", 7);
        faulty("fine 1+  ", 9);
        faulty("fine !", 6);
        faulty("fine (", 6);
        faulty("fine (1", 7);
        faulty("fine (1  ", 9);
        faulty("fine ((1)", 9);
        faulty("fine 1<", 7);
        faulty("fine 1|", 7);
        faulty("fine 1&", 7);
        faulty("fine 1*", 7);
    }

    static void t4_nothingWithinParentheses() {
        faulty("fine ()", 6);
        faulty("fine (())", 7);
        faulty("fine (1+)", 8);
        faulty("fine (!)", 7);
    }

    static void t4_oneParenthesisTooMany() {
        faulty("fine )", 5);
        faulty("fine 1)", 6);
        faulty("fine (1))", 8);
    }

    static void t4_noSignAheadOfANumber() {
        for (char c : "|&<=>+-*/".toCharArray()) {
            faulty("fine " + c + "1", 5);
            faulty("fine 1" + c + c + "1", 7);
            faulty("fine (" + c + "1)", 6);
            faulty("fine !" + c + "1", 6);
        }
    }

    static void t4_aTestIsOneAlone() {
        for (char a : "<=>".toCharArray()) {
            for (char b : "<=>".toCharArray()) {
                faulty("fine 1" + a + "2" + b + "3", 8);
                sound("fine (1" + a + "2)" + b + "3");
                sound("fine 1" + a + "(2" + b + "3)");
                sound("fine 1" + a + "2&3" + b + "4");
                sound("fine 1" + a + "2|3" + b + "4");
                faulty("fine 1" + a + "2+3" + b + "4", 10);
                faulty("fine !1" + a + "2" + b + "3", 9);
            }
        }
    }

    static void t4_theFirstOfSeveralFaults() {
        faulty("zzzz 12345 )", 0);
        faulty("fine 12345 )", 5);
        faulty("fine 1 ) 12345", 7);
    }

    // ---- head 4: the ninth that is open

    private static String open(int many) {
        return "(".repeat(many);
    }

    private static String shut(int many) {
        return ")".repeat(many);
    }

    static void t4_theNinthOpenParenthesis() {
        sound("fine " + open(8) + "h" + shut(8));
        faulty("fine " + open(9) + "h" + shut(9), 13);
        faulty("fine " + open(20), 13);
        faulty("fine 1+" + open(9), 15);
        faulty("fine ( ( ( ( ( ( ( ( ( 1", 21);
        faulty("fine " + open(8), 13);
    }

    static void t4_eightMayBeOpenedAgainBehindOthers() {
        sound("fine " + open(8) + "h" + shut(8) + "+" + open(8) + "h" + shut(8));
        sound("fine " + "(1)+".repeat(20) + "1");
        faulty("fine (1)+" + open(9) + "h" + shut(9), 17);
        sound("fine (" + open(7) + "1" + shut(7) + "+" + open(7) + "1" + shut(7) + ")");
        faulty("fine (" + open(7) + "1" + shut(7) + "+" + open(8) + "1" + shut(8) + ")", 5 + 1 + 15 + 1 + 7);
    }

    static void t4_theNinthOpenNot() {
        sound("fine " + "!".repeat(8) + "h");
        faulty("fine " + "!".repeat(9) + "h", 13);
        faulty("fine " + "!".repeat(20), 13);
        faulty("fine " + "! ".repeat(9) + "1", 21);
        faulty("fine " + "!".repeat(8), 13);
    }

    static void t4_eightNotsAgainBehindAPiece() {
        sound("fine " + "!".repeat(8) + "h+" + "!".repeat(8) + "h");
        faulty("fine " + "!".repeat(8) + "h+" + "!".repeat(9) + "h", 23);
        sound("fine " + "!h+".repeat(20) + "!h");
        sound("fine " + "!".repeat(8) + "(h)+" + "!".repeat(8) + "(h)");
    }

    static void t4_notsStayOpenThroughParentheses() {
        sound("fine " + "!(".repeat(8) + "h" + shut(8));
        faulty("fine " + "!".repeat(8) + "(!h)", 14);
        sound("fine " + "!".repeat(7) + "(!h)");
        sound("fine " + "!".repeat(7) + "(!h+!h)*" + "!".repeat(8) + "h");
    }

    static void t4_eachByItself() {
        sound("fine " + open(8) + "!".repeat(8) + "h" + shut(8));
        sound("fine " + "!".repeat(8) + open(8) + "h" + shut(8));
        faulty("fine " + open(8) + "!".repeat(9) + "h" + shut(8), 21);
        faulty("fine " + "!".repeat(8) + open(9) + "h" + shut(9), 21);
        faulty("fine " + "!(".repeat(8) + "(", 21);
        faulty("fine " + "!(".repeat(8) + "!", 21);
    }

    // ---- head 4: what texts give

    static void t4_intsWrap() {
        is("the least less 1", fineBy("(0-2048*2048)*512-1"), HIGH);
        is("the greatest and 1", fineBy("(0-2048*2048)*512-1+1"), LOW);
        is("times", fineBy("9999*9999*9999"), 9999 * 9999 * 9999);
        is("2 to 32", fineBy("256*256*256*256"), 0);
    }

    static void t4_overIs0By0() {
        is("7/0", fineBy("7/0"), 0);
        is("0/0", fineBy("0/0"), 0);
        is("7/(1-1)", fineBy("7/(1-1)"), 0);
        is("and goes on", fineBy("5+7/0*9"), 5);
        is("the least by 0", fineBy("(0-2048*2048)*512/0"), 0);
    }

    static void t4_theLeastByMinus1Wraps() {
        is("the least", fineBy("(0-2048*2048)*512/(0-1)"), LOW);
    }

    static void t0_overCutsTowards0() {
        is("7/2", fineBy("7/2"), 3);
        is("-7/2", fineBy("(0-7)/2"), -3);
        is("7/-2", fineBy("7/(0-2)"), -3);
        is("-7/-2", fineBy("(0-7)/(0-2)"), 3);
        is("-1/2", fineBy("(0-1)/2"), 0);
    }

    static void t4_aNumberIsItselfWhateverTheNamesAre() {
        for (int v : new int[] {0, 1, 2, 3, 4, 30, 9999}) {
            is("" + v, fineBy("" + v), v);
        }
        is("h", fineBy("h"), 3);
        is("s", fineBy("s"), 30);
        SandPicture x = calm();
        x.monk(GUEST, 9, 0);
        x.need(0, 27);
        x.hours(2);
        Due.text(x, "back 0");
        x.hours(1);
        is("not its faults", x.grains(2), 973);
        Due.text(x, "pour 5");
        x.hours(1);
        Due.text(x, "pour 0");
        is("not done", x.does(0, 0, 9), 0);
    }

    static void t4_testsGive1Or0() {
        int[] less = {1, 0, 0};
        int[] same = {0, 1, 0};
        int[] more = {0, 0, 1};
        for (int i = 0; i < 3; i++) {
            is((4 + i) + "<5", fineBy((4 + i) + "<5"), less[i]);
            is((4 + i) + "=5", fineBy((4 + i) + "=5"), same[i]);
            is((4 + i) + ">5", fineBy((4 + i) + ">5"), more[i]);
        }
        is("below 0", fineBy("0-1<0"), 1);
        is("the least and the greatest", fineBy("(0-2048*2048)*512<(0-2048*2048)*512-1"), 1);
    }

    static void t4_whatIsNot0IsTrue() {
        is("5&7", fineBy("5&7"), 1);
        is("1&2", fineBy("1&2"), 1);
        is("0&7", fineBy("0&7"), 0);
        is("7&0", fineBy("7&0"), 0);
        is("-1&1", fineBy("(0-1)&1"), 1);
        is("0|0", fineBy("0|0"), 0);
        is("0|7", fineBy("0|7"), 1);
        is("7|0", fineBy("7|0"), 1);
        is("-1|0", fineBy("(0-1)|0"), 1);
        is("!0", fineBy("!0"), 1);
        is("!7", fineBy("!7"), 0);
        is("!-1", fineBy("!(0-1)"), 0);
        is("!!7", fineBy("!!7"), 1);
    }

    static void t4_theLoosestFirst() {
        is("| looser than &", fineBy("1|1&0"), 1);
        is("& looser than tests", fineBy("2&1=1"), 1);
        is("| looser than tests", fineBy("1|0=5"), 1);
        is("tests looser than sums", fineBy("1+2<4"), 1);
        is("sums looser than terms", fineBy("2+3*4"), 14);
        is("! tightest", fineBy("!0+5"), 6);
        is("! of a piece", fineBy("!0*0"), 0);
        is("! of parentheses", fineBy("!(0*0)"), 1);
    }

    static void t4_fromTheLeft() {
        is("-", fineBy("9-4-3"), 2);
        is("/", fineBy("100/10/5"), 2);
        is("*/", fineBy("7/2*2"), 6);
        is("+-", fineBy("1-2+3"), 2);
    }

    static void t4_asManyPartsWaitAsMayBe() {
        StringBuilder e = new StringBuilder();
        for (int i = 0; i < 7; i++) {
            e.append("0|1&0<1+1*(");
        }
        e.append("5").append(shut(7));
        is("all levels, seven times", fineBy(e.toString()), 1);
        is("eight open", fineBy("1+(1+(1+(1+(1+(1+(1+(1+(1))))))))"), 9);
    }
}
