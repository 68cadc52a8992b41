import java.nio.charset.StandardCharsets;

/** Puts texts and words into the input buffer, padded with spaces to whole calls of append. */
final class Feed {
    static final int STEP = 20;

    private Feed() {
    }

    static int append(PieceDeposits x, String twentySigns) {
        byte[] bytes = twentySigns.getBytes(StandardCharsets.ISO_8859_1);
        return x.append(four(bytes, 0), four(bytes, 4), four(bytes, 8), four(bytes, 12),
                four(bytes, 16));
    }

    static PieceDeposits put(PieceDeposits x, String text) {
        StringBuilder padded = new StringBuilder(text);
        while (padded.length() % STEP != 0) {
            padded.append(' ');
        }
        for (int i = 0; i < padded.length(); i += STEP) {
            append(x, padded.substring(i, i + STEP));
        }
        return x;
    }

    static int parse(PieceDeposits x, String text) {
        put(x, text);
        return x.parse(text.length());
    }

    /** A new object with the book of the text. */
    static PieceDeposits book(String text) {
        PieceDeposits x = new PieceDeposits();
        Check.due("parse of " + text, parse(x, text), 0);
        return x;
    }

    static String piece(PieceDeposits x, int piece) {
        StringBuilder letters = new StringBuilder();
        int letter = x.pieceLetter(piece, 0);
        while (letter != PieceDeposits.NONE) {
            letters.append((char) ('a' + letter));
            letter = x.pieceLetter(piece, letters.length());
        }
        return letters.toString();
    }

    static String word(PieceDeposits x, int word) {
        StringBuilder letters = new StringBuilder();
        int letter = x.wordLetter(word, 0);
        while (letter != PieceDeposits.NONE) {
            letters.append((char) ('a' + letter));
            letter = x.wordLetter(word, letters.length());
        }
        return letters.toString();
    }

    /** The cutting of a word, such as ab.c */
    static String cutting(PieceDeposits x, int word) {
        StringBuilder parts = new StringBuilder();
        int part = x.part(word, 0);
        for (int k = 1; part != PieceDeposits.NONE; k++) {
            parts.append(k == 1 ? "" : ".").append(piece(x, part));
            part = x.part(word, k);
        }
        return parts.toString();
    }

    static String state(PieceDeposits x) {
        return x.size(11) + " | " + stateBesidesUndo(x);
    }

    /** All that the face tells of the state, one answer behind the other. */
    static String stateBesidesUndo(PieceDeposits x) {
        StringBuilder all = new StringBuilder();
        for (int what = 0; what < 11; what++) {
            all.append(x.size(what)).append(' ');
        }
        for (int what = 0; what < 6; what++) {
            all.append(x.account(what)).append(' ');
        }
        for (int user = 0; user < x.size(0); user++) {
            for (int what = 0; what < 5; what++) {
                all.append(what == 0 ? "| " : "").append(x.user(user, what)).append(' ');
            }
        }
        for (int piece = 0; piece < x.size(1); piece++) {
            all.append("| ").append(piece(x, piece)).append(' ');
            for (int what = 0; what < 5; what++) {
                all.append(x.piece(piece, what)).append(' ');
            }
        }
        for (int word = 0; word < x.size(2); word++) {
            all.append("| ").append(word(x, word)).append(' ').append(cutting(x, word));
            for (int what = 0; what < 4; what++) {
                all.append(' ').append(x.word(word, what));
            }
        }
        all.append("| ").append(x.favourite()).append(' ').append(x.richest()).append(' ')
                .append(x.errorPosition()).append(' ').append(x.isWhole());
        return all.toString();
    }

    private static int four(byte[] bytes, int at) {
        return (bytes[at] & 255) << 24 | (bytes[at + 1] & 255) << 16
                | (bytes[at + 2] & 255) << 8 | bytes[at + 3] & 255;
    }
}
