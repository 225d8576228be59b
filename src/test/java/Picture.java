/** All that can be seen of an object but how often it refused; told in 274 calls. */
final class Picture {
    private Picture() {
    }

    static String of(LateLines x) {
        StringBuilder s = new StringBuilder();
        for (int i = 3; i <= 9; i++) {
            s.append(" told").append(i).append('=').append(x.told(i));
        }
        return s + ofTheStore(x);
    }

    /** Without what told() tells: of THE TEXT, STATES and what is set. */
    static String ofTheStore(LateLines x) {
        StringBuilder s = new StringBuilder();
        for (int i = 0; i <= 9; i++) {
            s.append(" often").append(i).append('=').append(x.often(i));
        }
        for (int i = 0; i < 3; i++) {
            s.append(" cost").append(i).append('=').append(x.cost(i));
        }
        s.append(" even=").append(x.even());
        for (int b = 0; b < 16; b++) {
            s.append(" where").append(b).append('=').append(x.where(b));
            for (int i = 0; i < 12; i++) {
                s.append(i == 0 ? " items=" : ",").append(x.item(b, i / 3, i % 3));
            }
        }
        for (int i = 0; i < 12; i++) {
            s.append(" place=").append(x.place(i / 3, i % 3)).append(" fetch=").append(x.fetch(i / 3, i % 3));
        }
        for (int i = 0; i < 21; i++) {
            s.append(" got=").append(x.got(i / 3, i % 3));
        }
        return s.toString();
    }
}
