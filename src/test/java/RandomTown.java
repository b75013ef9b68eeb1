import java.util.ArrayList;
import java.util.Collections;
import java.util.List;
import java.util.Random;

/** Texts by chance, for tests: sound ones, and ones with a letter amiss. */
final class RandomTown {
    private RandomTown() {
    }

    static String sound(Random random) {
        StringBuilder text = new StringBuilder();
        int persons = 2 + random.nextInt(7);
        int nearest = random.nextInt(4) == 0 ? 3 : 10;
        for (int p = 0; p < persons; p++) {
            text.append('p');
            for (int q = 0; q < p; q++) {
                text.append(q == 0 ? "" : ",").append(random.nextInt(nearest));
            }
            text.append(';');
        }
        int lines = random.nextInt(7);
        for (int l = 0; l < lines; l++) {
            text.append(line(random, persons));
        }
        return text.length() > 200 ? sound(random) : text.toString();
    }

    private static String line(Random random, int persons) {
        List<Integer> stops = new ArrayList<>();
        for (int p = 0; p < persons; p++) {
            stops.add(p);
        }
        Collections.shuffle(stops, random);
        int size = 2 + random.nextInt(Math.min(6, persons) - 1);
        StringBuilder text = new StringBuilder("l").append(random.nextInt(4)).append(' ');
        for (int k = 0; k < size; k++) {
            text.append(k == 0 ? "" : ",").append(stops.get(k));
        }
        return text.append(';').toString();
    }

    /** A sound text with up to three letters put in, taken out or changed. */
    static String amiss(Random random) {
        StringBuilder text = new StringBuilder(sound(random));
        if (random.nextInt(3) == 0) {
            text.setLength(random.nextInt(text.length() + 1));
        }
        String letters = "pl,;0123456789  xP";
        int changes = random.nextInt(4);
        for (int i = 0; i < changes; i++) {
            int where = random.nextInt(text.length() + 1);
            char letter = letters.charAt(random.nextInt(letters.length()));
            int how = random.nextInt(3);
            if (how == 0 || where == text.length()) {
                text.insert(where, letter);
            } else if (how == 1) {
                text.deleteCharAt(where);
            } else {
                text.setCharAt(where, letter);
            }
        }
        return text.length() > 200 ? text.substring(0, 200) : text.toString();
    }
}
