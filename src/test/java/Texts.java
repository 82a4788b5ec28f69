import java.nio.charset.StandardCharsets;

/** Puts texts on an object's tape. */
final class Texts {
    private Texts() {
    }

    static int[] numbers(String twentyBytes) {
        byte[] bytes = twentyBytes.getBytes(StandardCharsets.ISO_8859_1);
        int[] numbers = new int[5];
        for (int i = 0; i < 20; i++) {
            numbers[i / 4] = numbers[i / 4] << 8 | bytes[i] & 255;
        }
        return numbers;
    }

    /** For an empty tape. */
    static void put(EclipseHouse house, String text) {
        StringBuilder padded = new StringBuilder(text);
        while (padded.length() % 20 != 0) {
            padded.append(' ');
        }
        for (int from = 0; from < padded.length(); from += 20) {
            int[] n = numbers(padded.substring(from, from + 20));
            house.feed(n[0], n[1], n[2], n[3], n[4]);
        }
        house.end(text.length());
    }

    static int record(EclipseHouse house, String text, int east) {
        put(house, text);
        return house.record(east);
    }

    static int reign(EclipseHouse house, String name, int calendar, int year) {
        put(house, name);
        return house.reign(calendar, year);
    }
}
