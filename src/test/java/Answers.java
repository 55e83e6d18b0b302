/** What the document's constants are, written once more, so that the tests do not follow the program. */
interface Answers {
    int UNKNOWN = -1;
    int BAD_VALUE = -2;
    int FULL = -3;
    int NOT_POSSIBLE = -4;
    int NONE = -5;
}
