/** Puts texts on the tape of an object, twenty bytes a call. */
final class TapeWriter {
    private TapeWriter() {
    }

    static void writes(OneAtATime x, String text) {
        x.end(0);
        for (int from = 0; from < text.length(); from += 20) {
            int[] numbers = new int[5];
            for (int i = 0; i < 20; i++) {
                int value = from + i < text.length() ? text.charAt(from + i) & 255 : 0;
                numbers[i / 4] = numbers[i / 4] << 8 | value;
            }
            x.feed(numbers[0], numbers[1], numbers[2], numbers[3], numbers[4]);
        }
        x.end(text.length());
    }

    static int tells(OneAtATime x, int slot, String text) {
        writes(x, text);
        return x.told(slot);
    }

    static String out(OneAtATime x) {
        StringBuilder text = new StringBuilder();
        int many = x.count(3);
        for (int i = 0; i < many; i++) {
            text.append((char) x.octet(i));
        }
        return text.toString();
    }
}
