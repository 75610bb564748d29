/** The numbers of the instructions, the types and the traps, as the document tells them. */
interface Op {
    int PUSH = 0, NIL = 1, LOAD = 2, STORE = 3, POP = 4, DUP = 5, SWAP = 6, ADD = 7, SUB = 8, MUL = 9;
    int DIV = 10, REM = 11, AND = 12, OR = 13, XOR = 14, SHL = 15, SHR = 16, LESS = 17, SAME = 18;
    int NONE = 19, JUMP = 20, ZERO = 21, NEW = 22, GET = 23, PUT = 24, ROW = 25, ROWS = 26;
    int LENGTH = 27, TAKE = 28, LAY = 29, CALL = 30, RETURN = 31, BLOCK = 32, SEE = 33, SET = 34;
    int FREE = 35, CHANNEL = 36, SEND = 37, RECEIVE = 38, CLOSE = 39, SPAWN = 40, YIELD = 41;
    int EXIT = 42, OUT = 43;

    int NOTHING = 255;
    int CLIENT = 0, SERVER = 1;
    int NOBODYS = 0, CLIENTS = 1, SERVERS = 2;
}
