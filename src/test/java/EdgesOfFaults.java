import java.util.ArrayList;
import java.util.List;

/** The edges of promise 8's FAULT: what can stand where, tokens that are none, signs that are open. */
final class EdgesOfFaults {
    private static final String REST = ";first 0;costs 0;";
    private static final String[] TOKENS = {"(", ")", ";", "+", "-", "*", "<", "=", "0", "1", "7", "9999", "fat",
        "more", "sat", "stood", "minute", "number", "or", "and", "not", "warm", "first", "costs", "12345", "x", "$"};
    private static final String[] OPERANDS = {"(", "-", "0", "1", "7", "9999", "fat", "more", "sat", "stood", "minute", "number"};
    private static final String[] JOINTS = {"+", "-", "*", "or", "and"};

    private static void fault(String text, int place) {
        Check.due(text, Check.text(new WarmChairs(), text), -100 - place);
    }

    private static void good(String text) {
        Check.due(text, Check.text(new WarmChairs(), text), 1);
    }

    /** Behind this only these can stand: then the text ends too early; others are the FAULT. */
    private static void stands(String ahead, List<String> these) {
        for (String token : TOKENS) {
            String text = ahead + " " + token;
            fault(text, text.length() - (these.contains(token) ? 0 : token.length()));
        }
    }

    private static List<String> with(String[] all, String... more) {
        List<String> list = new ArrayList<>(List.of(all));
        list.addAll(List.of(more));
        return list;
    }

    // ---- what can stand where

    static void p08_a_text_begins_with_warm() {
        stands("", List.of("warm"));
    }

    static void p08_behind_warm_first_costs() {
        stands("warm", with(OPERANDS, "not"));
        stands("warm 1;first", with(OPERANDS, "not"));
        stands("warm 1;first 1;costs", with(OPERANDS, "not"));
    }

    static void p08_behind_a_number_or_a_name() {
        for (String one : new String[] {"1", "9999", "fat", "number"}) {
            stands("warm " + one, with(JOINTS, "<", "=", ";"));
            stands("warm 1;first " + one, with(JOINTS, "<", "=", ";"));
        }
    }

    static void p08_behind_a_number_or_a_name_of_costs() {
        String ahead = "warm 1;first 1;costs 1";
        for (String token : TOKENS) {
            String text = ahead + " " + token;
            if (token.equals(";")) good(text);
            else fault(text, text.length() - (with(JOINTS, "<", "=").contains(token) ? 0 : token.length()));
        }
    }

    static void p08_behind_a_number_within_brackets() {
        stands("warm (1", with(JOINTS, "<", "=", ")"));
        stands("warm not (1", with(JOINTS, "<", "=", ")"));
        stands("warm (1)", with(JOINTS, "<", "=", ";"));
        stands("warm ((1)", with(JOINTS, "<", "=", ")"));
    }

    static void p08_behind_plus_minus_times() {
        for (String sign : new String[] {"+", "-", "*"}) stands("warm 1" + sign, with(OPERANDS));
    }

    static void p08_behind_a_minus_ahead_of_a_one() {
        stands("warm -", with(OPERANDS));
        stands("warm - -", with(OPERANDS));
        stands("warm not -", with(OPERANDS));
        stands("warm 1*-", with(OPERANDS));
        stands("warm -1", with(JOINTS, "<", "=", ";"));
    }

    static void p08_behind_less_and_equal() {
        for (String sign : new String[] {"<", "="}) stands("warm 1" + sign, with(OPERANDS));
    }

    static void p08_no_second_less_or_equal() {
        for (String sign : new String[] {"<", "="}) {
            stands("warm 1" + sign + "2", with(JOINTS, ";"));
            stands("warm 1" + sign + "2+3", with(JOINTS, ";"));
            stands("warm not 1" + sign + "2", with(JOINTS, ";"));
            stands("warm (1" + sign + "2", with(JOINTS, ")"));
            stands("warm (1" + sign + "2)", with(JOINTS, "<", "=", ";"));
            stands("warm 1" + sign + "2 and 3", with(JOINTS, "<", "=", ";"));
            stands("warm 1" + sign + "2 or 3", with(JOINTS, "<", "=", ";"));
        }
    }

    static void p08_behind_and_or_not() {
        for (String word : new String[] {"1 and", "1 or", "not", "1 and not", "not not"}) {
            stands("warm " + word, with(OPERANDS, "not"));
        }
    }

    static void p08_behind_an_open_bracket() {
        stands("warm (", with(OPERANDS, "not"));
        stands("warm 1+(", with(OPERANDS, "not"));
        stands("warm ((", with(OPERANDS, "not"));
    }

    static void p08_behind_a_part() {
        stands("warm 1;", List.of("first"));
        stands("warm 1;first 1;", List.of("costs"));
    }

    static void p08_nothing_stands_behind_the_last_part() {
        stands("warm 1;first 1;costs 1;", List.of());
        good("warm 1;first 1;costs 1;");
    }

    static void p08_the_first_of_two_faults() {
        fault("warm ; $ ; first", 5);
        fault("warm 1 ) ) ;", 7);
        fault("warm $ 12345", 5);
        fault("warm 12345 $", 5);
        fault("x $", 0);
        fault("warm 1;costs 1;$", 7);
    }

    // ---- the end

    static void p08_it_ends_too_early_at_its_size() {
        String text = "warm not ( - fat + 12 ) < 3 and 1 ; first 0 ; costs 0 ;";
        for (int size = 0; size < text.length(); size++) {
            String part = text.substring(0, size);
            // A word that is cut is a token that is none, and is the fault by itself.
            boolean cut = part.matches(".*[a-z]") && !part.matches("(.* )?(warm|not|fat|and|first|costs)");
            fault(part, cut ? part.lastIndexOf(' ') + 1 : size);
        }
        good(text);
    }

    static void p08_blanks_at_the_end_count_for_its_size() {
        fault(" ", 1);
        fault("\n", 1);
        fault("warm 1 \n ", 9);
        fault("warm 1;first 1;costs 1 ", 23);
        good("warm 1;first 1;costs 1; ");
        good("warm 1;first 1;costs 1;\n");
    }

    // ---- tokens

    static void p08_only_32_and_10_are_blanks() {
        for (int b = 0; b < 256; b++) {
            boolean blank = b == 32 || b == 10;
            if (b == '-' || b == '(' || b >= '0' && b <= '9' || b >= 'a' && b <= 'z') continue;
            if (blank) good("warm" + (char) b + "1" + REST);
            else fault("warm" + (char) b + "1" + REST, 4);
        }
    }

    static void p08_a_byte_that_begins_no_token() {
        String begins = "();+-*<= \n";
        for (int b = 0; b < 256; b++) {
            if (begins.indexOf(b) >= 0 || b >= '0' && b <= '9' || b >= 'a' && b <= 'z') continue;
            fault("warm 1 " + (char) b + REST, 7);
        }
    }

    static void p08_letters_are_a_to_z_alone() {
        fault("warm `fat" + REST, 5);
        fault("warm {fat" + REST, 5);
        fault("warm fat`" + REST, 8);
        fault("warm fat{" + REST, 8);
        fault("warm @" + REST, 5);
        fault("warm Z" + REST, 5);
        fault("warm fAt" + REST, 5);
        fault("Warm 1" + REST, 0);
        fault("warm a" + REST, 5);
        fault("warm fata" + REST, 5);
        fault("warm fatz" + REST, 5);
        fault("warm afat" + REST, 5);
        fault("warm zfat" + REST, 5);
        fault("warm z" + REST, 5);
    }

    static void p08_digits_are_0_to_9_alone() {
        good("warm 0" + REST);
        good("warm 9" + REST);
        fault("warm /" + REST, 5);
        fault("warm :" + REST, 5);
        fault("warm 1/" + REST, 6);
        fault("warm 1:" + REST, 6);
    }

    static void p08_a_number_of_4_digits_and_of_5() {
        good("warm 9999" + REST);
        good("warm 0000" + REST);
        fault("warm 10000" + REST, 5);
        fault("warm 00000" + REST, 5);
        fault("warm 1+99999" + REST, 7);
        good("warm 9999+9999" + REST);
    }

    static void p08_a_number_of_very_many_digits() {
        fault("warm " + "1".repeat(155), 5);
        fault("1".repeat(160), 0);
        // 2 to the 32nd and 5 is 5, were it cut.
        fault("warm 4294967301" + REST, 5);
    }

    static void p08_a_word_is_as_long_as_can_be() {
        fault("warm fatfat" + REST, 5);
        fault("warm fatt" + REST, 5);
        fault("warm fa" + REST, 5);
        fault("warmfat" + REST, 0);
        fault("warm notfat" + REST, 5);
        fault("warm 1 andnot 1" + REST, 7);
        fault("war m 1" + REST, 0);
        fault("warm " + "a".repeat(155), 5);
        good("warm1;first1;costs1;");
        good("warm 1or 2and 3or fat*2and(not 1)" + REST);
    }

    static void p08_each_name_and_one_letter_less_or_more() {
        for (String name : new String[] {"fat", "more", "sat", "stood", "minute", "number"}) {
            good("warm " + name + REST);
            fault("warm " + name + "s" + REST, 5);
            fault("warm " + name.substring(1) + REST, 5);
            fault("warm " + name.substring(0, name.length() - 1) + REST, 5);
        }
    }

    static void p08_each_key_and_one_letter_less_or_more() {
        fault("war 1" + REST, 0);
        fault("warms 1" + REST, 0);
        fault("warm 1;firs 0;costs 0;", 7);
        fault("warm 1;firsts 0;costs 0;", 7);
        fault("warm 1;first 0;cost 0;", 15);
        fault("warm 1;first 0;costss 0;", 15);
        fault("warm 1 o 1" + REST, 7);
        fault("warm 1 ors 1" + REST, 7);
        fault("warm 1 an 1" + REST, 7);
        fault("warm 1 ands 1" + REST, 7);
        fault("warm no 1" + REST, 5);
        fault("warm nots 1" + REST, 5);
    }

    // ---- signs that are open

    private static final String[] OPENS = {"( ", "not ", "- "};

    /** Whether a not stands only at first, behind a ( or a not. */
    private static boolean fits(int... opens) {
        for (int k = 1; k < opens.length; k++) if (opens[k] == 1 && opens[k - 1] == 2) return false;
        return true;
    }

    private static String opened(int... opens) {
        StringBuilder text = new StringBuilder("warm ");
        for (int open : opens) text.append(OPENS[open]);
        return text.toString();
    }

    private static String closed(int... opens) {
        StringBuilder text = new StringBuilder("1 ");
        for (int open : opens) if (open == 0) text.append(") ");
        return text + REST;
    }

    static void p08_five_may_be_open_a_sixth_is_a_fault() {
        for (int code = 0; code < 243; code++) {
            int[] opens = {code / 81, code / 27 % 3, code / 9 % 3, code / 3 % 3, code % 3};
            if (!fits(opens)) continue;
            String five = opened(opens);
            good(five + closed(opens));
            for (int sixth = 0; sixth < 3; sixth++) fault(five + OPENS[sixth] + closed(opens), five.length());
        }
    }

    static void p08_a_bracket_is_open_till_its_end() {
        good("warm (((((1)))))+(((((1)))))" + REST);
        good("warm ((((1)+(1)*(1))))" + REST);
        good("warm (((((1))+(-1))))" + REST);
        fault("warm (((((1)+(-1)))))" + REST, 14);
        fault("warm (((((1+(1))))))" + REST, 12);
        good("warm ((((1))))*(((((1)))))" + REST);
    }

    static void p08_a_not_is_open_till_its_NOT_ends() {
        // Past < and = it is open yet; and, or, ) and ; end it.
        good("warm ((((not 1<1))))" + REST);
        fault("warm ((((not 1<-1))))" + REST, 15);
        fault("warm ((((not 1=(1)))))" + REST, 15);
        fault("warm ((((not 1+-1))))" + REST, 15);
        fault("warm ((((not 1*(1)))))" + REST, 15);
        good("warm ((((not 1 and -1))))" + REST);
        good("warm ((((not 1 or not 1))))" + REST);
        good("warm ((((not 1 and(1)))))" + REST);
        good("warm ((((not 1)=-1)))" + REST);
    }

    static void p08_a_minus_is_open_till_its_ONE_ends() {
        good("warm ((((-1*-1))))" + REST);
        good("warm ((((-1+-1))))" + REST);
        good("warm ((((-1<-1))))" + REST);
        good("warm ((((-1-(1)))))" + REST);
        fault("warm ((((-(1)))))" + REST, 10);
        fault("warm ((((- -1))))" + REST, 11);
    }

    static void p08_a_minus_between_is_never_open() {
        good("warm (((((1-1-1)))))" + REST);
        good("warm 1-1-1-1-1-1-1-1-1" + REST);
        fault("warm (((((1--1)))))" + REST, 12);
    }

    static void p08_what_is_open_ends_with_the_part() {
        good("warm -----1;first -----1;costs -----1;");
        good("warm not not not not not 1;first (((((1)))));costs - - - - -1;");
        fault("warm -----1;first -----1;costs ------1;", 36);
    }

    static void p08_open_at_the_end_of_a_part() {
        fault("warm (1;first", 7);
        fault("warm ((1);first", 9);
        fault("warm 1);first", 6);
        fault("warm (1;", 7);
    }
}
