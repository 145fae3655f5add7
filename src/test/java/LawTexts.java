import java.util.function.IntUnaryOperator;

/** Texts of laws by lot: most are right, some have a sign more, less or another one. */
final class LawTexts {
    private final IntUnaryOperator lot;
    private final StringBuilder text = new StringBuilder();

    private LawTexts(IntUnaryOperator lot) {
        this.lot = lot;
    }

    static String text(IntUnaryOperator lot) {
        LawTexts made = new LawTexts(lot);
        if (made.one(6) == 0) {
            made.shortClauses(5 + made.one(9));
        } else {
            made.clauses(1 + made.one(4));
        }
        if (made.one(3) == 0) {
            made.spoil();
        }
        if (made.text.length() > 165) {
            made.text.setLength(150 + made.one(15));
        }
        return made.text.toString();
    }

    private int one(int below) {
        return lot.applyAsInt(below);
    }

    private void clauses(int many) {
        for (int i = 0; i < many; i++) {
            text.append(i == 0 ? "" : ";").append('g');
            sum(one(4));
            text.append('(');
            choice(one(4));
            text.append(')');
        }
    }

    private void shortClauses(int many) {
        for (int i = 0; i < many; i++) {
            text.append(i == 0 ? "" : ";").append('g').append(one(100)).append('(');
            text.append("nbadt".charAt(one(5))).append("<>=".charAt(one(3))).append(one(12)).append(')');
        }
    }

    private void spoil() {
        String signs = "g()[]!;|&<>=+-*/%ndbahusty0123456789 x";
        int at = one(text.length());
        char sign = one(20) == 0 ? (char) one(256) : signs.charAt(one(signs.length()));
        switch (one(4)) {
            case 0 -> text.deleteCharAt(at);
            case 1 -> text.setCharAt(at, sign);
            case 2 -> text.setLength(at);
            default -> text.insert(at, sign);
        }
        if (text.length() == 0) {
            text.append(sign);
        }
    }

    private void choice(int deep) {
        part(deep);
        for (int i = one(5) / 3; i > 0; i--) {
            text.append('|');
            part(deep);
        }
    }

    private void part(int deep) {
        piece(deep);
        for (int i = one(5) / 3; i > 0; i--) {
            text.append('&');
            piece(deep);
        }
    }

    private void piece(int deep) {
        int kind = deep <= 0 ? 9 : one(8);
        if (kind < 2) {
            text.append('!');
            piece(deep - one(2));
        } else if (kind < 4) {
            text.append('(');
            choice(deep - one(2) - 1 + one(2));
            text.append(')');
        } else {
            sum(deep - 1);
            text.append("<>=".charAt(one(3)));
            sum(one(2) * (deep - 1));
        }
    }

    private void sum(int deep) {
        product(deep);
        for (int i = one(4) / 3 + one(4) / 3; i > 0; i--) {
            text.append("+-".charAt(one(2)));
            product(deep);
        }
    }

    private void product(int deep) {
        factor(deep);
        for (int i = one(5) / 4 + one(5) / 4; i > 0; i--) {
            text.append("*/%".charAt(one(3)));
            factor(deep);
        }
    }

    private void factor(int deep) {
        int kind = one(8);
        if (kind < 2 && deep > 0) {
            text.append('[');
            sum(deep - one(3) / 2);
            text.append(']');
        } else if (kind < 4) {
            text.append("ndbahusty".charAt(one(9)));
        } else {
            int[] below = {3, 10, 120, 300, 100000};
            text.append(one(60) == 0 ? 99990 + one(20) : one(below[one(one(5) + 1)]));
        }
    }
}
