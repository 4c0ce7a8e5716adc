/** The words of the language, and the places where a NAME that is none of them has to stand. */
final class Words {
    static final String[] ALL = {"fun", "chg", "int", "list", "nil", "add", "sub", "mul", "div", "rem", "less", "same",
        "if", "let", "case", "cons", "call", "memo", "imod", "lmod", "read", "write", "jump"};

    private Words() {
    }

    /** A place of a TEXT where a NAME stands (#), and the calls that tell the NAME and its place. */
    enum NamePlace {
        TITLE_OF_FUN("(fun # () int 1)"),
        TITLE_OF_CHG("(chg # () int (write 1))"),
        PARAMETER_OF_FUN("(fun f ((# int)) int 1)"),
        PARAMETER_OF_CHG("(chg f ((# lmod)) int (write 1))"),
        VARIABLE("(fun f () int #)"),
        LET("(fun f () int (let # 1 2))"),
        CASE_FIRST("(fun f () int (case 1 2 (# other 3)))"),
        CASE_SECOND("(fun f () int (case 1 2 (other # 3)))"),
        CALL("(fun f () int (call #))"),
        MEMO("(fun f () int (memo # 1))"),
        READ("(chg f () int (read 1 # (write 2)))"),
        LET_OF_C("(chg f () int (let # 1 (write 2)))"),
        CASE_OF_C_FIRST("(chg f () int (case 1 (write 2) (# other (write 3))))"),
        CASE_OF_C_SECOND("(chg f () int (case 1 (write 2) (other # (write 3))))"),
        JUMP("(chg f () int (jump # 1))");

        private final String text;

        NamePlace(String text) {
            this.text = text;
        }

        String with(String name) {
            return text.replace("#", name);
        }

        /** The same, with the ^ that marks the place of a fault. */
        String marked(String name) {
            return text.replace("#", "^" + name);
        }

        int place() {
            return text.indexOf('#');
        }

        boolean isTitle() {
            return this == TITLE_OF_FUN || this == TITLE_OF_CHG;
        }

        boolean isParameter() {
            return this == PARAMETER_OF_FUN || this == PARAMETER_OF_CHG;
        }

        boolean isSecond() {
            return this == CASE_SECOND || this == CASE_OF_C_SECOND;
        }

        long nameIn(TwoLevelParser x) {
            if (isTitle() || isParameter()) {
                return x.title(0, isTitle() ? -1 : 0);
            }
            return x.name(0, isSecond() ? 1 : 0);
        }

        /** No call tells the place of a parameter's NAME. */
        int placeIn(TwoLevelParser x) {
            if (isParameter()) {
                return place();
            }
            return isTitle() ? x.definition(0, 4) : x.node(0, isSecond() ? 6 : 5);
        }
    }
}
