import java.math.BigInteger;
import java.util.ArrayList;
import java.util.List;
import java.util.regex.Matcher;
import java.util.regex.Pattern;

/** The text of a house for Model: all tokens first, then items that are done to a copy of the house at once. */
final class ModelText {
    private static final Pattern TOKEN = Pattern.compile("[a-z]+|[0-9]+|[^ ]", Pattern.DOTALL);
    private static final List<String> KINDS = List.of("flue", "crooked", "wide", "shut", "queens", "jackdaw");

    private final List<String> tokens = new ArrayList<>();
    private final List<Integer> places = new ArrayList<>();
    private final Model.Items items;
    private int at = 0;

    /** Thrown at the token that can't stand there. */
    private static final class Fault extends Exception {
        private static final long serialVersionUID = 1;
    }

    ModelText(String text, Model.Items items) {
        this.items = items;
        Matcher m = TOKEN.matcher(text);
        while (m.find()) {
            tokens.add(m.group());
            places.add(m.start());
        }
        tokens.add("");
        places.add(text.length());
    }

    int items() {
        try {
            int many = 0;
            while (true) {
                item();
                many++;
                if (tokens.get(at).isEmpty()) return many;
                if (!tokens.get(at).equals(";")) throw new Fault();
                at++;
            }
        } catch (Fault f) {
            return -1 - places.get(at);
        }
    }

    private void item() throws Fault {
        String name = tokens.get(at);
        if (KINDS.contains(name)) {
            if (items.flues() == 6) throw new Fault();
            items.flue(KINDS.indexOf(name));
            at++;
        } else if (name.equals("say")) {
            at++;
            items.say(number(items.flues() - 1), number(15), perhaps("voice", 5));
        } else if (name.equals("layer")) {
            at++;
            items.layer(number(items.flues() - 1), number(7), number(15), perhaps("cake", 0));
        } else if (name.equals("damp")) {
            at++;
            items.damp(number(9));
        } else {
            throw new Fault();
        }
    }

    private int perhaps(String name, int without) throws Fault {
        if (!tokens.get(at).equals(name)) return without;
        at++;
        return number(9);
    }

    private int number(int most) throws Fault {
        String token = tokens.get(at);
        if (!token.matches("[0-9]+")) throw new Fault();
        BigInteger value = new BigInteger(token);
        if (value.compareTo(BigInteger.valueOf(most)) > 0) throw new Fault();
        at++;
        return value.intValueExact();
    }
}
