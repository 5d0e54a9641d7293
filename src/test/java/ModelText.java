import java.util.ArrayList;
import java.util.List;
import java.util.TreeSet;

/** THE HILLS of a text, read from a list of words, NUMBERS and signs, each with its place. */
final class ModelText {
    int year = 10;
    final List<Integer> bridges = new ArrayList<>();
    final List<int[]> men = new ArrayList<>();
    final List<TreeSet<Integer>> knows = new ArrayList<>();
    final List<int[]> oxen = new ArrayList<>();
    /** The number of the FAULT, 0 for none. */
    int fault = 0;
    int place = -1;

    private final List<String> parts = new ArrayList<>();
    private final List<Integer> places = new ArrayList<>();
    private int at = 0;

    private static final class Faulty extends RuntimeException {
        private static final long serialVersionUID = 1;
        final int number;
        final int place;

        Faulty(int number, int place) {
            super("", null, false, false);
            this.number = number;
            this.place = place;
        }
    }

    void read(String text) {
        cut(text);
        try {
            readAll();
        } catch (Faulty found) {
            fault = found.number;
            place = found.place;
        }
    }

    private void cut(String text) {
        for (int from = 0; from < text.length();) {
            int to = from + 1;
            String alike = isIn("[a-z]", text, from) ? "[a-z]" : isIn("[0-9]", text, from) ? "[0-9]" : "";
            while (!alike.isEmpty() && to < text.length() && isIn(alike, text, to)) {
                to++;
            }
            if (text.charAt(from) != ' ') {
                parts.add(text.substring(from, to));
                places.add(from);
            }
            from = to;
        }
        // The end is a part of its own, at the text's length.
        parts.add("");
        places.add(text.length());
    }

    private static boolean isIn(String signs, String text, int k) {
        return text.substring(k, k + 1).matches(signs);
    }

    private String part() {
        return parts.get(at);
    }

    private Faulty faulty(int number) {
        return new Faulty(number, places.get(at));
    }

    private void readAll() {
        boolean yearTold = false;
        boolean othersTold = false;
        int knowsTold = 0;
        while (!part().isEmpty()) {
            String word = part();
            TreeSet<Integer> faults = new TreeSet<>();
            if (!List.of("year", "bridge", "man", "knows", "ox").contains(word) || word.equals("year") && othersTold) {
                faults.add(1);
            }
            if (word.equals("year") && yearTold || word.equals("bridge") && bridges.size() == 5 || word.equals("ox") && oxen.size() == 5
                    || word.equals("man") && men.size() == 6 || word.equals("knows") && knowsTold == 12) {
                faults.add(3);
            }
            if (!faults.isEmpty()) {
                throw faulty(faults.first());
            }
            at++;
            yearTold |= word.equals("year");
            othersTold |= !word.equals("year");
            knowsTold += word.equals("knows") ? 1 : 0;
            readClause(word);
        }
    }

    private void readClause(String word) {
        switch (word) {
            case "year":
                year = number(1, 99);
                break;
            case "bridge":
                bridges.add(number(0, 9));
                break;
            case "man":
                men.add(new int[] {number(1, 999), number(0, 100)});
                knows.add(new TreeSet<>());
                break;
            case "ox":
                oxen.add(new int[] {number(1, 999), number(0, 999)});
                break;
            default:
                readKnows();
                break;
        }
        sign(";");
    }

    private void readKnows() {
        int a = number(0, men.size() - 1);
        known(a);
        while (part().equals(",")) {
            at++;
            known(a);
        }
    }

    private void known(int a) {
        int b = number(0, men.size() - 1);
        if (a == b || !knows.get(a).add(b)) {
            at--;
            throw faulty(4);
        }
    }

    private int number(int least, int greatest) {
        if (!part().matches("[0-9]+")) {
            throw faulty(1);
        }
        if (part().length() > 3 || Integer.parseInt(part()) < least || Integer.parseInt(part()) > greatest) {
            throw faulty(2);
        }
        at++;
        return Integer.parseInt(parts.get(at - 1));
    }

    private void sign(String sign) {
        if (!part().equals(sign)) {
            throw faulty(1);
        }
        at++;
    }
}
