/** All that tells two objects apart; an object is used up by making its image, with some 70 calls. */
final class Image {
    private Image() {
    }

    static String of(PaddockFields x) {
        StringBuilder image = new StringBuilder("now ").append(present(x));
        for (int i = x.savedStates(); i > 0; i--) {
            image.append(", saved ").append(Check.answerOf(() -> {
                x.undo();
                return present(x);
            }));
        }
        for (int i = 0; i < 2; i++) {
            int slot = i;
            image.append(", slot ").append(Check.answerOf(() -> {
                x.goBack(slot);
                return present(x);
            }));
        }
        return image.toString();
    }

    private static String present(PaddockFields x) {
        return x.savedStates() + " saved " + x.numbers() + " numbers " + x.sum() + " sum " + x.fields() + " fields "
                + x.firstError() + " error " + x.digest();
    }
}
