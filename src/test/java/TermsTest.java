/** What the sections "What it is" and "Terms" bound: calls of an object, characters of the text, lines, letters, digits and signs. */
public final class TermsTest {
    private static final Class<IllegalArgumentException> ARGUMENT = IllegalArgumentException.class;
    private static final Class<IllegalStateException> STATE = IllegalStateException.class;
    private static final String LETTERS_AND_DIGITS = "abcdefghijklmnopqrstuvwxyzABCDEFGHIJKLMNOPQRSTUVWXYZ0123456789";
    private static final String SIGNS = "!\"#$%&'()*+,-./:;<=>?@[\\]^_`{|}~";

    public static void main(String[] args) {
        lastCalls();
        mostCharacters();
        fullTexts();
        characters();
        lines();
        signs();
        lettersAndDigits();
        numbering();
        Due.finish("TermsTest");
    }

    /** "An object is used for at most 512 calls after it has been made." */
    private static void lastCalls() {
        Marktongue tongue = new Marktongue();
        for (int place = 0; place < 240; place++) {
            tongue.put(place, place % 2 == 0 ? '>' : ' ');
        }
        for (int call = 241; call < 510; call++) {
            Due.same("call " + call, tongue.owner(call % 240), call % 240 / 2 + 1);
        }
        Due.same("call 510", tongue.nodes(), 121);
        Due.raises("call 511", STATE, () -> tongue.put(240, 'a'));
        Due.same("call 512", tongue.clear(), 240);
        Marktongue other = new Marktongue();
        for (int call = 1; call < 512; call += 2) {
            Due.same("call " + call, other.put(0, '#'), 1);
            Due.same("call " + (call + 1), call == 511 ? other.print(0) : other.take(0, 1), call == 511 ? 5 : 0);
        }
    }

    /** "The text has at most 240 characters." */
    private static void mostCharacters() {
        Tongue tongue = new Tongue();
        for (int length = 1; length <= 240; length++) {
            Due.same("length " + length, tongue.put(length / 2, 'a' + length % 26), length);
        }
        for (int place : new int[] {0, 120, 239, 240}) {
            Due.raises("character 241 at " + place, STATE, () -> tongue.put(place, 'a'));
        }
        Due.same("length when full", tongue.length(), 240);
        Due.same("first when full", tongue.character(0), 98);
        Due.same("last when full", tongue.character(239), 99);
        Due.same("one less", tongue.take(239, 1), 239);
        Due.same("full again", tongue.put(239, 'a'), 240);
        Due.same("all taken", tongue.take(0, 240), 0);
        Due.same("one again", tongue.put(0, 'a'), 1);
    }

    /** Full texts by other calls than put: loaded, merged, formatted. */
    private static void fullTexts() {
        Sheet sheet = new Sheet("x".repeat(240));
        sheet.tongue.keep(0);
        sheet.tongue.keep(1);
        sheet.tongue.clear();
        Due.same("load of a full text", sheet.tongue.load(1), 240);
        Due.raises("put behind load", STATE, () -> sheet.tongue.put(0, 'a'));
        Due.same("merge of full texts", sheet.tongue.merge(), 0);
        Due.raises("put behind merge", STATE, () -> sheet.tongue.put(0, 'a'));
        Due.same("format of a full text", sheet.tongue.format(), 0);
        Due.raises("put behind format", STATE, () -> sheet.tongue.put(0, 'a'));
        Due.same("text", sheet.text(), "x".repeat(240));
    }

    /** "line ends, which have the number 10, and others, 32 to 126" */
    private static void characters() {
        Tongue tongue = new Tongue();
        for (int character = -2; character < 260; character++) {
            int one = character;
            if (character == 10 || character >= 32 && character <= 126) {
                Due.same("put " + character, tongue.put(0, character), 1);
                Due.same("character " + character, tongue.character(0), character);
                tongue.take(0, 1);
            } else {
                Due.raises("put " + character, ARGUMENT, () -> tongue.put(0, one));
            }
        }
    }

    /** "there is one more than line ends; the last one may be empty" */
    private static void lines() {
        for (int ends = 1; ends < 5; ends++) {
            Sheet sheet = new Sheet("~~~" + "\n".repeat(ends));
            Due.same("lines behind " + ends + " line ends", sheet.tongue.node(1, 3), ends);
        }
        Due.same("a line of blanks at the end", new Sheet("~~~\na\n  ").tongue.node(1, 3), 2);
        Due.same("no line end", new Sheet("~~~").tongue.node(1, 3), 0);
    }

    /** "all others but blanks and line ends are signs": \ ahead of a sign is none of the characters. */
    private static void signs() {
        Due.same("characters told apart", LETTERS_AND_DIGITS.length() + SIGNS.length(), 94);
        for (char sign : SIGNS.toCharArray()) {
            Due.same("\\ and " + sign, Sheet.inlineOf("a\\" + sign), "a" + sign);
            Due.same("* ahead of " + sign, Sheet.inlineOf("a*\\" + sign + "b*"), "a*" + sign + "b*");
            Due.same("no name " + sign, new Sheet("[" + sign + "]: t").kinds().substring(0, 2), "DP");
            Due.same("no target " + sign, new Sheet("[a]: " + sign).kinds().substring(0, 2), "DP");
            Due.same("no anchor " + sign, Sheet.inlineOf("[b]\n# " + sign + "b"), "{K400:b}");
        }
    }

    /** "Letters and digits are a to z, A to Z, 0 to 9" */
    private static void lettersAndDigits() {
        for (char letter : LETTERS_AND_DIGITS.toCharArray()) {
            Due.same("\\ and " + letter, Sheet.inlineOf("a\\" + letter), "a\\" + letter);
            Due.same("* ahead of " + letter, Sheet.inlineOf("a*" + letter + "b*"), "a{E:" + letter + "b}");
            Due.same("name " + letter, Sheet.inlineOf("[" + letter + "]\n\n[" + letter + "]: t"), "{K300:" + letter + "}");
            Due.same("target " + letter, Sheet.shownOf("[a]: " + letter), "{D:}");
            Due.same("anchor " + letter, Sheet.inlineOf("[" + letter + "z]\n# !" + letter + "z"), "{K400:" + letter + "z}");
        }
        Due.same("\\ and a blank", Sheet.inlineOf("a\\ b"), "a\\ b");
        Due.same("\\ and a line end", Sheet.inlineOf("a\\\nb"), "a\\\nb");
    }

    /** "numbered from 0 in the order in which they begin, each ahead of those within: 0 is the DOCUMENT" */
    private static void numbering() {
        Due.same("the empty text", new Sheet("").kinds(), "D");
        Sheet sheet = new Sheet("> - *a [b]*\nc\n# `d`\n~~~\n~~~\n[b]: e");
        Due.same("kinds", sheet.kinds(), "DQLIPETKTTHCF.");
        Due.same("parents", sheet.told(1), "-1 0 1 2 3 4 5 5 7 4 0 10 0 0");
    }
}
