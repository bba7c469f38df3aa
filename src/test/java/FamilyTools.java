/** What the tests are made of: small families, and ways to tell what is in them. */
abstract class FamilyTools {
    static final int EDGE = 65536;
    static final int ANY = 65535;
    static final int LOW = Integer.MIN_VALUE;
    static final int HIGH = Integer.MAX_VALUE;

    interface Maker {
        TonguerootFamily make();
    }

    interface Call {
        Object on(TonguerootFamily x);
    }

    interface NumberedCall {
        Object on(TonguerootFamily x, int number);
    }

    static void put(TonguerootFamily x, int meaning, int... sounds) {
        x.word(meaning);
        for (int sound : sounds) {
            x.spell(sound);
        }
    }

    static int set(int... members) {
        int set = 0;
        for (int member : members) {
            set |= 1 << member;
        }
        return set;
    }

    static String spelt(TonguerootFamily x, int language, int meaning) {
        StringBuilder row = new StringBuilder();
        for (int place = 0; place < x.length(language, meaning); place++) {
            row.append(place == 0 ? "" : " ").append(x.soundAt(language, meaning, place));
        }
        return row.toString();
    }

    static String recalledWord(TonguerootFamily x, int language, int meaning) {
        StringBuilder row = new StringBuilder();
        for (int place = 0; place < x.recalled(language, meaning); place++) {
            row.append(place == 0 ? "" : " ").append(x.recalledAt(language, meaning, place));
        }
        return row.toString();
    }

    static String table(TonguerootFamily x, int meaning, int one, int other) {
        StringBuilder row = new StringBuilder();
        for (int column = 0; column < x.columns(meaning, one, other); column++) {
            row.append(column == 0 ? "" : " ").append(x.columnAt(meaning, one, other, column));
        }
        return row.toString();
    }

    /** What one law makes of a word. */
    static String after(int[] word, int sounds, int becomes, int ahead, int behind) {
        TonguerootFamily x = new TonguerootFamily();
        put(x, 0, word);
        x.language(0);
        x.law(1, sounds, becomes, ahead, behind);
        return spelt(x, 1, 0);
    }

    static int[] row(int... sounds) {
        return sounds;
    }

    /** Sounds 0 and 1 differ in all features, so that a pair of them costs 7. */
    static TonguerootFamily farSounds() {
        TonguerootFamily x = new TonguerootFamily();
        x.setSound(1, 63);
        return x;
    }

    static TonguerootFamily fullFamily() {
        TonguerootFamily x = new TonguerootFamily();
        for (int sound = 0; sound < 16; sound++) {
            x.setSound(sound, sound * 5 % 64);
        }
        for (int meaning = 0; meaning < 11; meaning++) {
            put(x, meaning, meaning, meaning * 3 % 16, 2, 15 - meaning);
        }
        for (int language = 1; language < 10; language++) {
            x.language((language - 1) / 2);
            for (int law = 0; law < language - 1; law++) {
                x.law(language, 0x1111 << law % 4, (law * 7 + language * 3) % 23 - 1, law % 3 == 0 ? EDGE | 0xff : 0,
                    law % 3 == 1 ? 0xff00 : 0);
            }
        }
        for (int loan = 0; loan < 12; loan++) {
            x.loan(loan % 5, loan % 4, 4 + loan % 6, loan % 9);
        }
        return x;
    }

    /** Nothing can be added: 12 words of 10 sounds, 10 languages, 8 laws in each daughter, 12 loans. */
    static TonguerootFamily fullest() {
        TonguerootFamily x = new TonguerootFamily();
        for (int sound = 0; sound < 16; sound++) {
            x.setSound(sound, sound * 11 % 64);
        }
        for (int meaning = 0; meaning < 12; meaning++) {
            x.word(meaning);
            for (int place = 0; place < 10; place++) {
                x.spell((meaning * 3 + place * place) % 16);
            }
        }
        for (int language = 1; language < 10; language++) {
            x.language(language / 2);
            for (int law = 0; law < 8; law++) {
                x.law(language, 0x0421 << (law + language) % 6, (law * 5 + language * 7) % 23 - 1, law % 3 == 0 ? EDGE | 0xff : 0,
                    law % 4 == 1 ? 0xff0f : 0);
            }
        }
        for (int loan = 0; loan < 12; loan++) {
            x.loan(loan % 5, loan % 4, 4 + loan % 6, loan % 9);
        }
        return x;
    }

    /** A mother with the words 1 2 and (open) 3 of the meanings 0 and 11, her daughter 1 with two laws, its daughter 2. */
    static TonguerootFamily three() {
        TonguerootFamily x = new TonguerootFamily();
        put(x, 0, 1, 2);
        put(x, 11, 3);
        x.language(0);
        x.language(1);
        x.law(1, set(1), 4, 0, 0);
        x.law(1, set(4), 5, 0, 0);
        x.loan(11, 0, 2, 0);
        return x;
    }

    /** All that a family can tell of itself, its open word and its features too; it is used up by that. */
    static String story(TonguerootFamily x) {
        StringBuilder all = new StringBuilder();
        all.append(x.languages()).append(' ').append(x.loans());
        for (int language = 0; language < x.languages(); language++) {
            all.append(' ').append(x.laws(language));
        }
        all.append(' ').append(x.digest()).append(' ').append(Check.told(() -> x.spell(3))).append(' ').append(x.digest());
        for (int sound = 0; sound < 16; sound++) {
            all.append(' ').append(x.setSound(sound, 0));
        }
        for (int meaning = 0; meaning < 12; meaning++) {
            all.append(' ').append(x.word(meaning));
        }
        return all.toString();
    }

    /** The call throws just that, and leaves the family as one that was never called so. */
    static void refused(String exception, String what, Maker maker, Call call) {
        TonguerootFamily x = maker.make();
        Check.due(what, "throws." + exception, () -> call.on(x));
        Check.due(what + ", and what it leaves", story(maker.make()), () -> story(x));
    }

    static void refusedPlace(String what, Maker maker, Call call) {
        refused("IndexOutOfBoundsException", what, maker, call);
    }

    static void refusedValue(String what, Maker maker, Call call) {
        refused("IllegalArgumentException", what, maker, call);
    }

    static void refusedState(String what, Maker maker, Call call) {
        refused("IllegalStateException", what, maker, call);
    }

    static void taken(String what, Maker maker, Call call) {
        String answer = Check.told(() -> call.on(maker.make()));
        Check.due(what, false, () -> answer.startsWith("throws.") || answer.startsWith("machine."));
    }

    static void takenAll(int[] numbers, Maker maker, NumberedCall call) {
        for (int number : numbers) {
            taken("inside: " + number, maker, x -> call.on(x, number));
        }
    }

    static void refusedPlaces(int[] numbers, Maker maker, NumberedCall call) {
        for (int number : numbers) {
            refusedPlace("outside: " + number, maker, x -> call.on(x, number));
        }
    }

    /** From low to high the call answers; just outside of that, and far outside, there is no such place. */
    static void boundsOfPlace(int low, int high, Maker maker, NumberedCall call) {
        takenAll(row(low, high), maker, call);
        refusedPlaces(row(low - 1, high + 1, LOW, HIGH), maker, call);
    }

    static void boundsOfValue(int low, int high, Maker maker, NumberedCall call) {
        takenAll(row(low, high), maker, call);
        for (int number : row(low - 1, high + 1, LOW, HIGH)) {
            refusedValue("outside: " + number, maker, x -> call.on(x, number));
        }
    }

    /** Every language of a family of 1, of 3 and of 10 is one; the numbers around them are none. */
    static void boundsOfLanguage(NumberedCall call) {
        boundsOfPlace(0, 0, TonguerootFamily::new, call);
        boundsOfPlace(0, 2, FamilyTools::three, call);
        boundsOfPlace(0, 9, FamilyTools::fullest, call);
    }
}
