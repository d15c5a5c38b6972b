def Rc_PG : String := "PasswordGate"
def Fl_PG : List (String × String × String × Bool) := [("PasswordGate", "kit", "LPasswordGate$Kit;", true), ("PasswordGate", "exchange", "LPasswordGate$Exchange;", true), ("PasswordGate", "server", "LPasswordGate$Server;", true), ("PasswordGate", "sessions", "[LPasswordGate$Session;", true), ("PasswordGate", "text", "LPasswordGate$Bytes;", true), ("PasswordGate", "outcome", "LPasswordGate$Bytes;", true)]
def Fc_PG : u_T := fun k => Fl_PG.getD k ("", "", "", false)
def Fp_PG : List Nat := [549, 551, 553, 555, 557, 559]
theorem Fi_PG : ∀ k, k < 6 → lw_tbl[Fp_PG.getD k 0]? = some (u_lay Rc_PG Fc_PG k) := by decide +kernel
theorem Ft_PG : ∀ k, k < 6 → (parseFieldDescriptor (Fc_PG k).2.2.1).isSome = true := by decide +kernel
theorem Fn_PG : ∀ a, a < 6 → ∀ b, b < 6 → a ≠ b → (Fc_PG a).2.1 ≠ (Fc_PG b).2.1 := by decide +kernel
def Rc_Kit : String := "PasswordGate$Kit"
def Fl_Kit : List (String × String × String × Bool) := [("PasswordGate$Kit", "digest", "LPasswordGate$Digest;", true), ("PasswordGate$Kit", "keyed", "LPasswordGate$Keyed;", true), ("PasswordGate$Kit", "curve", "LPasswordGate$Curve;", true), ("PasswordGate$Kit", "scalars", "LPasswordGate$Scalars;", true), ("PasswordGate$Kit", "point", "LPasswordGate$Point;", true), ("PasswordGate$Kit", "other", "LPasswordGate$Point;", true), ("PasswordGate$Kit", "scalar", "[B", true), ("PasswordGate$Kit", "wide", "[B", true), ("PasswordGate$Kit", "random", "[B", true), ("PasswordGate$Kit", "maskKey", "[B", true), ("PasswordGate$Kit", "clientKey", "[B", true), ("PasswordGate$Kit", "clientPublic", "LPasswordGate$Bytes;", true), ("PasswordGate$Kit", "seal", "[B", true), ("PasswordGate$Kit", "exportKey", "[B", true), ("PasswordGate$Kit", "made", "LPasswordGate$Point;", true), ("PasswordGate$Kit", "pad", "[B", true), ("PasswordGate$Kit", "body", "LPasswordGate$Bytes;", true), ("PasswordGate$Kit", "info", "LPasswordGate$Bytes;", true), ("PasswordGate$Kit", "seed", "I", true), ("PasswordGate$Kit", "chances", "I", false)]
def Fc_Kit : u_T := fun k => Fl_Kit.getD k ("", "", "", false)
def Fp_Kit : List Nat := [362, 364, 366, 368, 370, 372, 374, 376, 378, 380, 382, 384, 386, 388, 390, 392, 394, 396, 398, 400]
theorem Fi_Kit : ∀ k, k < 20 → lw_tbl[Fp_Kit.getD k 0]? = some (u_lay Rc_Kit Fc_Kit k) := by decide +kernel
theorem Ft_Kit : ∀ k, k < 20 → (parseFieldDescriptor (Fc_Kit k).2.2.1).isSome = true := by decide +kernel
theorem Fn_Kit : ∀ a, a < 20 → ∀ b, b < 20 → a ≠ b → (Fc_Kit a).2.1 ≠ (Fc_Kit b).2.1 := by decide +kernel
def Rc_Digest : String := "PasswordGate$Digest"
def Fl_Digest : List (String × String × String × Bool) := [("PasswordGate$Digest", "state", "[J", true), ("PasswordGate$Digest", "words", "[J", true)]
def Fc_Digest : u_T := fun k => Fl_Digest.getD k ("", "", "", false)
def Fp_Digest : List Nat := [133, 135]
theorem Fi_Digest : ∀ k, k < 2 → lw_tbl[Fp_Digest.getD k 0]? = some (u_lay Rc_Digest Fc_Digest k) := by decide +kernel
theorem Ft_Digest : ∀ k, k < 2 → (parseFieldDescriptor (Fc_Digest k).2.2.1).isSome = true := by decide +kernel
theorem Fn_Digest : ∀ a, a < 2 → ∀ b, b < 2 → a ≠ b → (Fc_Digest a).2.1 ≠ (Fc_Digest b).2.1 := by decide +kernel
def Rc_Keyed : String := "PasswordGate$Keyed"
def Fl_Keyed : List (String × String × String × Bool) := [("PasswordGate$Keyed", "digest", "LPasswordGate$Digest;", true), ("PasswordGate$Keyed", "body", "LPasswordGate$Bytes;", true), ("PasswordGate$Keyed", "part", "LPasswordGate$Bytes;", true), ("PasswordGate$Keyed", "inner", "[B", true), ("PasswordGate$Keyed", "block", "[B", true), ("PasswordGate$Keyed", "noKey", "[B", true)]
def Fc_Keyed : u_T := fun k => Fl_Keyed.getD k ("", "", "", false)
def Fp_Keyed : List Nat := [178, 180, 182, 184, 186, 188]
theorem Fi_Keyed : ∀ k, k < 6 → lw_tbl[Fp_Keyed.getD k 0]? = some (u_lay Rc_Keyed Fc_Keyed k) := by decide +kernel
theorem Ft_Keyed : ∀ k, k < 6 → (parseFieldDescriptor (Fc_Keyed k).2.2.1).isSome = true := by decide +kernel
theorem Fn_Keyed : ∀ a, a < 6 → ∀ b, b < 6 → a ≠ b → (Fc_Keyed a).2.1 ≠ (Fc_Keyed b).2.1 := by decide +kernel
def Rc_Bytes : String := "PasswordGate$Bytes"
def Fl_Bytes : List (String × String × String × Bool) := [("PasswordGate$Bytes", "data", "[B", true), ("PasswordGate$Bytes", "length", "I", false)]
def Fc_Bytes : u_T := fun k => Fl_Bytes.getD k ("", "", "", false)
def Fp_Bytes : List Nat := [166, 168]
theorem Fi_Bytes : ∀ k, k < 2 → lw_tbl[Fp_Bytes.getD k 0]? = some (u_lay Rc_Bytes Fc_Bytes k) := by decide +kernel
theorem Ft_Bytes : ∀ k, k < 2 → (parseFieldDescriptor (Fc_Bytes k).2.2.1).isSome = true := by decide +kernel
theorem Fn_Bytes : ∀ a, a < 2 → ∀ b, b < 2 → a ≠ b → (Fc_Bytes a).2.1 ≠ (Fc_Bytes b).2.1 := by decide +kernel
def Rc_Curve : String := "PasswordGate$Curve"
def Fl_Curve : List (String × String × String × Bool) := [("PasswordGate$Curve", "field", "LPasswordGate$Field;", true), ("PasswordGate$Curve", "table", "[LPasswordGate$Point;", true), ("PasswordGate$Curve", "half", "LPasswordGate$Point;", true), ("PasswordGate$Curve", "again", "LPasswordGate$Bytes;", true), ("PasswordGate$Curve", "a", "[J", true), ("PasswordGate$Curve", "b", "[J", true), ("PasswordGate$Curve", "c", "[J", true), ("PasswordGate$Curve", "e", "[J", true), ("PasswordGate$Curve", "f", "[J", true), ("PasswordGate$Curve", "g", "[J", true), ("PasswordGate$Curve", "h", "[J", true), ("PasswordGate$Curve", "\x72", "[J", true), ("PasswordGate$Curve", "s", "[J", true)]
def Fc_Curve : u_T := fun k => Fl_Curve.getD k ("", "", "", false)
def Fp_Curve : List Nat := [264, 266, 268, 270, 272, 274, 276, 278, 280, 282, 284, 286, 288]
theorem Fi_Curve : ∀ k, k < 13 → lw_tbl[Fp_Curve.getD k 0]? = some (u_lay Rc_Curve Fc_Curve k) := by decide +kernel
theorem Ft_Curve : ∀ k, k < 13 → (parseFieldDescriptor (Fc_Curve k).2.2.1).isSome = true := by decide +kernel
theorem Fn_Curve : ∀ a, a < 13 → ∀ b, b < 13 → a ≠ b → (Fc_Curve a).2.1 ≠ (Fc_Curve b).2.1 := by decide +kernel
def Rc_Field : String := "PasswordGate$Field"
def Fl_Field : List (String × String × String × Bool) := [("PasswordGate$Field", "whole", "[J", true), ("PasswordGate$Field", "check", "[J", true), ("PasswordGate$Field", "low", "[J", true), ("PasswordGate$Field", "mid", "[J", true), ("PasswordGate$Field", "high", "[J", true), ("PasswordGate$Field", "cube", "[J", true), ("PasswordGate$Field", "base", "[J", true)]
def Fc_Field : u_T := fun k => Fl_Field.getD k ("", "", "", false)
def Fp_Field : List Nat := [210, 212, 214, 216, 218, 220, 222]
theorem Fi_Field : ∀ k, k < 7 → lw_tbl[Fp_Field.getD k 0]? = some (u_lay Rc_Field Fc_Field k) := by decide +kernel
theorem Ft_Field : ∀ k, k < 7 → (parseFieldDescriptor (Fc_Field k).2.2.1).isSome = true := by decide +kernel
theorem Fn_Field : ∀ a, a < 7 → ∀ b, b < 7 → a ≠ b → (Fc_Field a).2.1 ≠ (Fc_Field b).2.1 := by decide +kernel
def Rc_Point : String := "PasswordGate$Point"
def Fl_Point : List (String × String × String × Bool) := [("PasswordGate$Point", "x", "[J", true), ("PasswordGate$Point", "y", "[J", true), ("PasswordGate$Point", "z", "[J", true), ("PasswordGate$Point", "t", "[J", true)]
def Fc_Point : u_T := fun k => Fl_Point.getD k ("", "", "", false)
def Fp_Point : List Nat := [240, 242, 244, 246]
theorem Fi_Point : ∀ k, k < 4 → lw_tbl[Fp_Point.getD k 0]? = some (u_lay Rc_Point Fc_Point k) := by decide +kernel
theorem Ft_Point : ∀ k, k < 4 → (parseFieldDescriptor (Fc_Point k).2.2.1).isSome = true := by decide +kernel
theorem Fn_Point : ∀ a, a < 4 → ∀ b, b < 4 → a ≠ b → (Fc_Point a).2.1 ≠ (Fc_Point b).2.1 := by decide +kernel
def Rc_Scalars : String := "PasswordGate$Scalars"
def Fl_Scalars : List (String × String × String × Bool) := [("PasswordGate$Scalars", "held", "[J", true), ("PasswordGate$Scalars", "folded", "[J", true), ("PasswordGate$Scalars", "base", "[J", true), ("PasswordGate$Scalars", "power", "[J", true)]
def Fc_Scalars : u_T := fun k => Fl_Scalars.getD k ("", "", "", false)
def Fp_Scalars : List Nat := [301, 303, 305, 307]
theorem Fi_Scalars : ∀ k, k < 4 → lw_tbl[Fp_Scalars.getD k 0]? = some (u_lay Rc_Scalars Fc_Scalars k) := by decide +kernel
theorem Ft_Scalars : ∀ k, k < 4 → (parseFieldDescriptor (Fc_Scalars k).2.2.1).isSome = true := by decide +kernel
theorem Fn_Scalars : ∀ a, a < 4 → ∀ b, b < 4 → a ≠ b → (Fc_Scalars a).2.1 ≠ (Fc_Scalars b).2.1 := by decide +kernel
def Rc_Exchange : String := "PasswordGate$Exchange"
def Fl_Exchange : List (String × String × String × Bool) := [("PasswordGate$Exchange", "serverMac", "[B", true), ("PasswordGate$Exchange", "clientMac", "[B", true), ("PasswordGate$Exchange", "sessionKey", "[B", true), ("PasswordGate$Exchange", "preamble", "LPasswordGate$Bytes;", true), ("PasswordGate$Exchange", "joined", "LPasswordGate$Bytes;", true), ("PasswordGate$Exchange", "told", "LPasswordGate$Bytes;", true), ("PasswordGate$Exchange", "secret", "[B", true), ("PasswordGate$Exchange", "handshake", "[B", true), ("PasswordGate$Exchange", "macKey", "[B", true), ("PasswordGate$Exchange", "heard", "[B", true)]
def Fc_Exchange : u_T := fun k => Fl_Exchange.getD k ("", "", "", false)
def Fp_Exchange : List Nat := [427, 429, 431, 433, 435, 437, 439, 441, 443, 445]
theorem Fi_Exchange : ∀ k, k < 10 → lw_tbl[Fp_Exchange.getD k 0]? = some (u_lay Rc_Exchange Fc_Exchange k) := by decide +kernel
theorem Ft_Exchange : ∀ k, k < 10 → (parseFieldDescriptor (Fc_Exchange k).2.2.1).isSome = true := by decide +kernel
theorem Fn_Exchange : ∀ a, a < 10 → ∀ b, b < 10 → a ≠ b → (Fc_Exchange a).2.1 ≠ (Fc_Exchange b).2.1 := by decide +kernel
def Rc_Server : String := "PasswordGate$Server"
def Fl_Server : List (String × String × String × Bool) := [("PasswordGate$Server", "records", "[LPasswordGate$Bytes;", true), ("PasswordGate$Server", "madeUp", "LPasswordGate$Bytes;", true), ("PasswordGate$Server", "hidden", "LPasswordGate$Bytes;", true), ("PasswordGate$Server", "nonce", "LPasswordGate$Bytes;", true), ("PasswordGate$Server", "info", "LPasswordGate$Bytes;", true), ("PasswordGate$Server", "secret", "[B", true), ("PasswordGate$Server", "ownKey", "[B", true), ("PasswordGate$Server", "ownPublic", "LPasswordGate$Bytes;", true), ("PasswordGate$Server", "userKey", "[B", true), ("PasswordGate$Server", "share", "[B", true), ("PasswordGate$Server", "maskKey", "[B", true)]
def Fc_Server : u_T := fun k => Fl_Server.getD k ("", "", "", false)
def Fp_Server : List Nat := [468, 470, 472, 474, 476, 478, 480, 482, 484, 486, 488]
theorem Fi_Server : ∀ k, k < 11 → lw_tbl[Fp_Server.getD k 0]? = some (u_lay Rc_Server Fc_Server k) := by decide +kernel
theorem Ft_Server : ∀ k, k < 11 → (parseFieldDescriptor (Fc_Server k).2.2.1).isSome = true := by decide +kernel
theorem Fn_Server : ∀ a, a < 11 → ∀ b, b < 11 → a ≠ b → (Fc_Server a).2.1 ≠ (Fc_Server b).2.1 := by decide +kernel
def Rc_Session : String := "PasswordGate$Session"
def Fl_Session : List (String × String × String × Bool) := [("PasswordGate$Session", "wires", "[LPasswordGate$Bytes;", true), ("PasswordGate$Session", "keys", "[LPasswordGate$Bytes;", true), ("PasswordGate$Session", "awaitedMac", "[B", true), ("PasswordGate$Session", "awaitingKey", "[B", true), ("PasswordGate$Session", "user", "I", false), ("PasswordGate$Session", "taken", "[Z", true), ("PasswordGate$Session", "password", "LPasswordGate$Bytes;", true), ("PasswordGate$Session", "sent", "LPasswordGate$Bytes;", true), ("PasswordGate$Session", "opened", "LPasswordGate$Bytes;", true), ("PasswordGate$Session", "blind", "[B", true), ("PasswordGate$Session", "share", "[B", true)]
def Fc_Session : u_T := fun k => Fl_Session.getD k ("", "", "", false)
def Fp_Session : List Nat := [517, 519, 521, 523, 525, 527, 529, 531, 533, 535, 537]
theorem Fi_Session : ∀ k, k < 11 → lw_tbl[Fp_Session.getD k 0]? = some (u_lay Rc_Session Fc_Session k) := by decide +kernel
theorem Ft_Session : ∀ k, k < 11 → (parseFieldDescriptor (Fc_Session k).2.2.1).isSome = true := by decide +kernel
theorem Fn_Session : ∀ a, a < 11 → ∀ b, b < 11 → a ≠ b → (Fc_Session a).2.1 ≠ (Fc_Session b).2.1 := by decide +kernel
def Rc_Model : String := "PasswordGateModel"
def Fl_Model : List (String × String × String × Bool) := [("PasswordGateModel", "thrownCode", "I", false), ("PasswordGateModel", "buf", "[I", true), ("PasswordGateModel", "size", "I", false), ("PasswordGateModel", "cube", "[J", true), ("PasswordGateModel", "square", "[J", true), ("PasswordGateModel", "limb", "[J", true), ("PasswordGateModel", "limbs2", "[J", true), ("PasswordGateModel", "limbs3", "[J", true), ("PasswordGateModel", "words", "[J", true), ("PasswordGateModel", "sums", "[J", true), ("PasswordGateModel", "state", "[J", true), ("PasswordGateModel", "digest", "[I", true), ("PasswordGateModel", "data", "[I", true), ("PasswordGateModel", "dataSize", "I", false), ("PasswordGateModel", "inner", "[I", true), ("PasswordGateModel", "nothing", "[I", true), ("PasswordGateModel", "info", "[I", true), ("PasswordGateModel", "infoSize", "I", false), ("PasswordGateModel", "out", "[I", true), ("PasswordGateModel", "tag", "[I", true), ("PasswordGateModel", "tagSize", "I", false), ("PasswordGateModel", "f", "[J", true), ("PasswordGateModel", "product", "[J", true), ("PasswordGateModel", "less", "[J", true), ("PasswordGateModel", "whole", "[J", true), ("PasswordGateModel", "packed", "[I", true), ("PasswordGateModel", "scalar", "[J", true), ("PasswordGateModel", "q", "[J", true), ("PasswordGateModel", "rest", "[J", true), ("PasswordGateModel", "wide", "[J", true), ("PasswordGateModel", "factor", "[J", true), ("PasswordGateModel", "powers", "[J", true), ("PasswordGateModel", "seedBytes", "[I", true), ("PasswordGateModel", "seed", "I", false), ("PasswordGateModel", "chances", "I", false), ("PasswordGateModel", "secret", "[I", true), ("PasswordGateModel", "serverKey", "[J", true), ("PasswordGateModel", "serverPublic", "[I", true), ("PasswordGateModel", "enrolled", "[Z", true), ("PasswordGateModel", "records", "[I", true), ("PasswordGateModel", "record", "[I", true), ("PasswordGateModel", "work", "[I", true), ("PasswordGateModel", "text", "[I", true), ("PasswordGateModel", "textSize", "I", false), ("PasswordGateModel", "resultBytes", "[I", true), ("PasswordGateModel", "resultSize", "I", false), ("PasswordGateModel", "randomized", "[I", true), ("PasswordGateModel", "nonce", "[I", true), ("PasswordGateModel", "clientPublic", "[I", true), ("PasswordGateModel", "clientKey", "[J", true), ("PasswordGateModel", "envelopeMac", "[I", true), ("PasswordGateModel", "exported", "[I", true), ("PasswordGateModel", "maskKey", "[I", true), ("PasswordGateModel", "held", "[J", true), ("PasswordGateModel", "users", "[I", true), ("PasswordGateModel", "passwords", "[I", true), ("PasswordGateModel", "passwordSize", "[I", true), ("PasswordGateModel", "blinds", "[J", true), ("PasswordGateModel", "ephemeral", "[J", true), ("PasswordGateModel", "has1", "[Z", true), ("PasswordGateModel", "has2", "[Z", true), ("PasswordGateModel", "has3", "[Z", true), ("PasswordGateModel", "read1", "[Z", true), ("PasswordGateModel", "read2", "[Z", true), ("PasswordGateModel", "read3", "[Z", true), ("PasswordGateModel", "clientDone", "[Z", true), ("PasswordGateModel", "serverDone", "[Z", true), ("PasswordGateModel", "sent1", "[I", true), ("PasswordGateModel", "wire1", "[I", true), ("PasswordGateModel", "wire2", "[I", true), ("PasswordGateModel", "wire3", "[I", true), ("PasswordGateModel", "expected", "[I", true), ("PasswordGateModel", "clientSession", "[I", true), ("PasswordGateModel", "serverSession", "[I", true), ("PasswordGateModel", "exports", "[I", true), ("PasswordGateModel", "shared", "[I", true), ("PasswordGateModel", "preamble", "[I", true), ("PasswordGateModel", "preambleSize", "I", false), ("PasswordGateModel", "preKey", "[I", true), ("PasswordGateModel", "hashed", "[I", true), ("PasswordGateModel", "handshake", "[I", true), ("PasswordGateModel", "serverMac", "[I", true), ("PasswordGateModel", "clientMac", "[I", true), ("PasswordGateModel", "sessionKey", "[I", true), ("PasswordGateModel", "pad", "[I", true), ("PasswordGateModel", "reply", "[J", true), ("PasswordGateModel", "opened", "[I", true)]
def Fc_Model : u_T := fun k => Fl_Model.getD k ("", "", "", false)
def Fp_Model : List Nat := [1480, 1482, 1484, 1486, 1488, 1490, 1492, 1494, 1496, 1498, 1500, 1502, 1504, 1506, 1508, 1510, 1512, 1514, 1516, 1518, 1520, 1522, 1524, 1526, 1528, 1530, 1532, 1534, 1536, 1538, 1540, 1542, 1544, 1546, 1548, 1550, 1552, 1554, 1556, 1558, 1560, 1562, 1564, 1566, 1568, 1570, 1572, 1574, 1576, 1578, 1580, 1582, 1584, 1586, 1588, 1590, 1592, 1594, 1596, 1598, 1600, 1602, 1604, 1606, 1608, 1610, 1612, 1614, 1616, 1618, 1620, 1622, 1624, 1626, 1628, 1630, 1632, 1634, 1636, 1638, 1640, 1642, 1644, 1646, 1648, 1650, 1652]
theorem Fi_Model : ∀ k, k < 87 → lw_tbl[Fp_Model.getD k 0]? = some (u_lay Rc_Model Fc_Model k) := by decide +kernel
theorem Ft_Model : ∀ k, k < 87 → (parseFieldDescriptor (Fc_Model k).2.2.1).isSome = true := by decide +kernel
theorem Fn_Model : ∀ a, a < 87 → ∀ b, b < 87 → a ≠ b → (Fc_Model a).2.1 ≠ (Fc_Model b).2.1 := by decide +kernel
def Rc_NSE : String := "java/util/NoSuchElementException"
def Fl_NSE : List (String × String × String × Bool) := [("java/lang/Throwable", "cause", "Ljava/lang/Throwable;", false), ("java/lang/Throwable", "stackTrace", "[Ljava/lang/StackTraceElement;", false), ("java/lang/Throwable", "suppressedExceptions", "Ljava/util/List;", false), ("java/lang/Throwable", "detailMessage", "Ljava/lang/String;", false), ("java/lang/Throwable", "backtrace", "Ljava/lang/Object;", false), ("java/lang/Throwable", "depth", "I", false)]
def Fc_NSE : u_T := fun k => Fl_NSE.getD k ("", "", "", false)
def Fp_NSE : List Nat := [1136, 1138, 1140, 1142, 1144, 1182]
theorem Fi_NSE : ∀ k, k < 6 → lw_tbl[Fp_NSE.getD k 0]? = some (u_lay Rc_NSE Fc_NSE k) := by decide +kernel
theorem Ft_NSE : ∀ k, k < 6 → (parseFieldDescriptor (Fc_NSE k).2.2.1).isSome = true := by decide +kernel
theorem Fn_NSE : ∀ a, a < 6 → ∀ b, b < 6 → a ≠ b → (Fc_NSE a).2.1 ≠ (Fc_NSE b).2.1 := by decide +kernel
/-- the classes whose objects the worlds hold -/
def classes : List vw_C := [(Rc_PG, Fc_PG, 6), (Rc_Kit, Fc_Kit, 20), (Rc_Digest, Fc_Digest, 2), (Rc_Keyed, Fc_Keyed, 6), (Rc_Bytes, Fc_Bytes, 2), (Rc_Curve, Fc_Curve, 13), (Rc_Field, Fc_Field, 7), (Rc_Point, Fc_Point, 4), (Rc_Scalars, Fc_Scalars, 4), (Rc_Exchange, Fc_Exchange, 10), (Rc_Server, Fc_Server, 11), (Rc_Session, Fc_Session, 11), (Rc_Model, Fc_Model, 87), (Rc_NSE, Fc_NSE, 6)]
def okC (q : vw_C) : Prop := (∀ w ∈ u_ws q.1 q.2.1 q.2.2, w ∈ lw_tbl) ∧ (∀ k, k < q.2.2 → (parseFieldDescriptor (q.2.1 k).2.2.1).isSome = true) ∧ ∀ a, a < q.2.2 → ∀ b, b < q.2.2 → a ≠ b → (q.2.1 a).2.1 ≠ (q.2.1 b).2.1
theorem okC_of {C : String} {T : u_T} {N : Nat} (pl : List Nat) (h1 : ∀ k, k < N → lw_tbl[pl.getD k 0]? = some (u_lay C T k)) (h2 : ∀ k, k < N → (parseFieldDescriptor (T k).2.2.1).isSome = true) (h3 : ∀ a, a < N → ∀ b, b < N → a ≠ b → (T a).2.1 ≠ (T b).2.1) : okC (C, T, N) := by
  refine ⟨fun w hw => ?_, h2, h3⟩
  obtain ⟨k, hk, rfl⟩ := List.mem_map.mp hw
  exact List.mem_of_getElem? (h1 k (List.mem_range.mp hk))
theorem classes_ok : ∀ q ∈ classes, okC q := List.forall_mem_cons.mpr ⟨okC_of Fp_PG Fi_PG Ft_PG Fn_PG, List.forall_mem_cons.mpr ⟨okC_of Fp_Kit Fi_Kit Ft_Kit Fn_Kit, List.forall_mem_cons.mpr ⟨okC_of Fp_Digest Fi_Digest Ft_Digest Fn_Digest, List.forall_mem_cons.mpr ⟨okC_of Fp_Keyed Fi_Keyed Ft_Keyed Fn_Keyed, List.forall_mem_cons.mpr ⟨okC_of Fp_Bytes Fi_Bytes Ft_Bytes Fn_Bytes, List.forall_mem_cons.mpr ⟨okC_of Fp_Curve Fi_Curve Ft_Curve Fn_Curve, List.forall_mem_cons.mpr ⟨okC_of Fp_Field Fi_Field Ft_Field Fn_Field, List.forall_mem_cons.mpr ⟨okC_of Fp_Point Fi_Point Ft_Point Fn_Point, List.forall_mem_cons.mpr ⟨okC_of Fp_Scalars Fi_Scalars Ft_Scalars Fn_Scalars, List.forall_mem_cons.mpr ⟨okC_of Fp_Exchange Fi_Exchange Ft_Exchange Fn_Exchange, List.forall_mem_cons.mpr ⟨okC_of Fp_Server Fi_Server Ft_Server Fn_Server, List.forall_mem_cons.mpr ⟨okC_of Fp_Session Fi_Session Ft_Session Fn_Session, List.forall_mem_cons.mpr ⟨okC_of Fp_Model Fi_Model Ft_Model Fn_Model, List.forall_mem_cons.mpr ⟨okC_of Fp_NSE Fi_NSE Ft_NSE Fn_NSE, fun _ h => by cases h⟩⟩⟩⟩⟩⟩⟩⟩⟩⟩⟩⟩⟩⟩
/-- the kinds of arrays -/
def tyl : List FieldType := [.long, .byte, .int, .boolean, .object "PasswordGate$Point", .object "PasswordGate$Bytes", .object "PasswordGate$Session"]
