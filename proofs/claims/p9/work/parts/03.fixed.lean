/-- PasswordGate$Digest.FIRST -/
def tb_0 : List Int64 := [7640891576956012808, (-4942790177534073029), 4354685564936845355, (-6534734903238641935), 5840696475078001361, (-7276294671716946913), 2270897969802886507, 6620516959819538809]
/-- PasswordGate$Digest.ADDED -/
def tb_1 : List Int64 := [4794697086780616226, 8158064640168781261, (-5349999486874862801), (-1606136188198331460), 4131703408338449720, 6480981068601479193, (-7908458776815382629), (-6116909921290321640), (-2880145864133508542), 1334009975649890238, 2608012711638119052, 6128411473006802146, 8268148722764581231, (-9160688886553864527), (-7215885187991268811), (-4495734319001033068), (-1973867731355612462), (-1171420211273849373), 1135362057144423861, 2597628984639134821, 3308224258029322869, 5365058923640841347, 6679025012923562964, 8573033837759648693, (-7476448914759557205), (-6327057829258317296), (-5763719355590565569), (-4658551843659510044), (-4116276920077217854), (-3051310485924567259), 489312712824947311, 1452737877330783856, 2861767655752347644, 3322285676063803686, 5560940570517711597, 5996557281743188959, 7280758554555802590, 8532644243296465576, (-9096487096722542874), (-7894198246740708037), (-6719396339535248540), (-6333637450476146687), (-4446306890439682159), (-4076793802049405392), (-3345356375505022440), (-2983346525034927856), (-860691631967231958), 1182934255886127544, 1847814050463011016, 2177327727835720531, 2830643537854262169, 3796741975233480872, 4115178125766777443, 5681478168544905931, 6601373596472566643, 7507060721942968483, 8399075790359081724, 8693463985226723168, (-8878714635349349518), (-8302665154208450068), (-8016688836872298968), (-6606660893046293015), (-4685533653050689259), (-4147400797238176981), (-3880063495543823972), (-3348786107499101689), (-1523767162380948706), (-757361751448694408), 500013540394364858, 748580250866718886, 1242879168328830382, 1977374033974150939, 2944078676154940804, 3659926193048069267, 4368137639120453308, 4836135668995329356, 5532061633213252278, 6448918945643986474, 6902733635092675308, 7801388544844847127]
/-- PasswordGate$Field.I -/
def tb_2 : List Int64 := [34513072, 25610706, 9377949, 3500415, 12389472, 33281959, 41962654, 31548777, 326685, 11406482]
/-- PasswordGate$Field.ONE -/
def tb_3 : List Int64 := [1, 0, 0, 0, 0, 0, 0, 0, 0, 0]
/-- PasswordGate$Curve.ONE_LESS_SQUARE -/
def tb_4 : List Int64 := [6275446, 16937061, 44170319, 29780721, 11667076, 7397348, 39186143, 1766194, 42675006, 672202]
/-- PasswordGate$Curve.D -/
def tb_5 : List Int64 := [56195235, 13857412, 51736253, 6949390, 114729, 24766616, 60832955, 30306712, 48412415, 21499315]
/-- PasswordGate$Curve.LESS_ONE_SQUARED -/
def tb_6 : List Int64 := [15551776, 22456977, 53683765, 23429360, 55212328, 10178283, 40474537, 4729243, 61826754, 23438029]
/-- PasswordGate$Curve.G -/
def tb_7 : List Int64 := [24849947, 33400850, 43495378, 6347714, 46036536, 32887293, 41837720, 18186727, 66238516, 14525638]
/-- PasswordGate$Curve.TWICE_D -/
def tb_8 : List Int64 := [45281625, 27714825, 36363642, 13898781, 229458, 15978800, 54557047, 27058993, 29715967, 9444199]
/-- PasswordGate$Curve.E -/
def tb_9 : List Int64 := [6111466, 4156064, 39310137, 12243467, 41204824, 120896, 20826367, 26493656, 6093567, 31568420]
/-- PasswordGate$Scalars.Q -/
def tb_10 : List Int64 := [217437165, 19280293, 127719000, 262007343, 5342, 0, 0, 0, 0, 1]
/-- PasswordGate$Curve.ZERO -/
def tb_11 : List Int64 := [0, 0, 0, 0, 0, 0, 0, 0, 0, 0]
/-- PasswordGate$Curve.BASE_X -/
def tb_12 : List Int64 := [52811034, 25909283, 16144682, 17082669, 27570973, 30858332, 40966398, 8378388, 20764389, 8758491]
/-- PasswordGate$Curve.BASE_Y -/
def tb_13 : List Int64 := [40265304, 26843545, 13421772, 20132659, 26843545, 6710886, 53687091, 13421772, 40265318, 26843545]
/-- HashToGroup- -/
def tx_0 : List Int32 := [72, 97, 115, 104, 84, 111, 71, 114, 111, 117, 112, 45]
/-- OPRFV1- -/
def tx_1 : List Int32 := [79, 80, 82, 70, 86, 49, 45]
/-- -ristretto255-SHA512 -/
def tx_2 : List Int32 := [45, 114, 105, 115, 116, 114, 101, 116, 116, 111, 50, 53, 53, 45, 83, 72, 65, 53, 49, 50]
/-- chance -/
def tx_3 : List Int32 := [99, 104, 97, 110, 99, 101]
/-- OPAQUE-DeriveDiffieHellmanKeyPair -/
def tx_4 : List Int32 := [79, 80, 65, 81, 85, 69, 45, 68, 101, 114, 105, 118, 101, 68, 105, 102, 102, 105, 101, 72, 101, 108, 108, 109, 97, 110, 75, 101, 121, 80, 97, 105, 114]
/-- DeriveKeyPair -/
def tx_5 : List Int32 := [68, 101, 114, 105, 118, 101, 75, 101, 121, 80, 97, 105, 114]
/-- user -/
def tx_6 : List Int32 := [117, 115, 101, 114]
/-- OprfKey -/
def tx_7 : List Int32 := [79, 112, 114, 102, 75, 101, 121]
/-- OPAQUE-DeriveKeyPair -/
def tx_8 : List Int32 := [79, 80, 65, 81, 85, 69, 45, 68, 101, 114, 105, 118, 101, 75, 101, 121, 80, 97, 105, 114]
/-- Finalize -/
def tx_9 : List Int32 := [70, 105, 110, 97, 108, 105, 122, 101]
/-- MaskingKey -/
def tx_10 : List Int32 := [77, 97, 115, 107, 105, 110, 103, 75, 101, 121]
/-- PrivateKey -/
def tx_11 : List Int32 := [80, 114, 105, 118, 97, 116, 101, 75, 101, 121]
/-- OPAQUE-DeriveDiffieHellmanKeyPair -/
def tx_12 : List Int32 := [79, 80, 65, 81, 85, 69, 45, 68, 101, 114, 105, 118, 101, 68, 105, 102, 102, 105, 101, 72, 101, 108, 108, 109, 97, 110, 75, 101, 121, 80, 97, 105, 114]
/-- ExportKey -/
def tx_13 : List Int32 := [69, 120, 112, 111, 114, 116, 75, 101, 121]
/-- AuthKey -/
def tx_14 : List Int32 := [65, 117, 116, 104, 75, 101, 121]
/-- CredentialResponsePad -/
def tx_15 : List Int32 := [67, 114, 101, 100, 101, 110, 116, 105, 97, 108, 82, 101, 115, 112, 111, 110, 115, 101, 80, 97, 100]
/-- OPAQUEv1- -/
def tx_16 : List Int32 := [79, 80, 65, 81, 85, 69, 118, 49, 45]
/-- HandshakeSecret -/
def tx_17 : List Int32 := [72, 97, 110, 100, 115, 104, 97, 107, 101, 83, 101, 99, 114, 101, 116]
/-- OPAQUE- -/
def tx_18 : List Int32 := [79, 80, 65, 81, 85, 69, 45]
/-- SessionKey -/
def tx_19 : List Int32 := [83, 101, 115, 115, 105, 111, 110, 75, 101, 121]
/-- ServerMAC -/
def tx_20 : List Int32 := [83, 101, 114, 118, 101, 114, 77, 65, 67]
/-- ClientMAC -/
def tx_21 : List Int32 := [67, 108, 105, 101, 110, 116, 77, 65, 67]
/-- the fixed cells: 14 tables, 22 texts (an object and its bytes), three that nobody reads -/
def fxc : List va_E := [.inl (0, 8, .inr (.inl fun j => tb_0.getD j 0)), .inl (0, 80, .inr (.inl fun j => tb_1.getD j 0)), .inl (0, 10, .inr (.inl fun j => tb_2.getD j 0)), .inl (0, 10, .inr (.inl fun j => tb_3.getD j 0)), .inl (0, 10, .inr (.inl fun j => tb_4.getD j 0)), .inl (0, 10, .inr (.inl fun j => tb_5.getD j 0)), .inl (0, 10, .inr (.inl fun j => tb_6.getD j 0)), .inl (0, 10, .inr (.inl fun j => tb_7.getD j 0)), .inl (0, 10, .inr (.inl fun j => tb_8.getD j 0)), .inl (0, 10, .inr (.inl fun j => tb_9.getD j 0)), .inl (0, 10, .inr (.inl fun j => tb_10.getD j 0)), .inl (0, 10, .inr (.inl fun j => tb_11.getD j 0)), .inl (0, 10, .inr (.inl fun j => tb_12.getD j 0)), .inl (0, 10, .inr (.inl fun j => tb_13.getD j 0)), .inr (100, [.ref 15, .int 0]), .inl (1, 12, .inl fun j => tx_0.getD j 0), .inr (100, [.ref 17, .int 0]), .inl (1, 7, .inl fun j => tx_1.getD j 0), .inr (100, [.ref 19, .int 0]), .inl (1, 20, .inl fun j => tx_2.getD j 0), .inr (100, [.ref 21, .int 0]), .inl (1, 6, .inl fun j => tx_3.getD j 0), .inr (100, [.ref 23, .int 0]), .inl (1, 33, .inl fun j => tx_4.getD j 0), .inr (100, [.ref 25, .int 0]), .inl (1, 13, .inl fun j => tx_5.getD j 0), .inr (100, [.ref 27, .int 0]), .inl (1, 4, .inl fun j => tx_6.getD j 0), .inr (100, [.ref 29, .int 0]), .inl (1, 7, .inl fun j => tx_7.getD j 0), .inr (100, [.ref 31, .int 0]), .inl (1, 20, .inl fun j => tx_8.getD j 0), .inr (100, [.ref 33, .int 0]), .inl (1, 8, .inl fun j => tx_9.getD j 0), .inr (100, [.ref 35, .int 0]), .inl (1, 10, .inl fun j => tx_10.getD j 0), .inr (100, [.ref 37, .int 0]), .inl (1, 10, .inl fun j => tx_11.getD j 0), .inr (100, [.ref 39, .int 0]), .inl (1, 33, .inl fun j => tx_12.getD j 0), .inr (100, [.ref 41, .int 0]), .inl (1, 9, .inl fun j => tx_13.getD j 0), .inr (100, [.ref 43, .int 0]), .inl (1, 7, .inl fun j => tx_14.getD j 0), .inr (100, [.ref 45, .int 0]), .inl (1, 21, .inl fun j => tx_15.getD j 0), .inr (100, [.ref 47, .int 0]), .inl (1, 9, .inl fun j => tx_16.getD j 0), .inr (100, [.ref 49, .int 0]), .inl (1, 15, .inl fun j => tx_17.getD j 0), .inr (100, [.ref 51, .int 0]), .inl (1, 7, .inl fun j => tx_18.getD j 0), .inr (100, [.ref 53, .int 0]), .inl (1, 10, .inl fun j => tx_19.getD j 0), .inr (100, [.ref 55, .int 0]), .inl (1, 9, .inl fun j => tx_20.getD j 0), .inr (100, [.ref 57, .int 0]), .inl (1, 9, .inl fun j => tx_21.getD j 0), .inl (9, 0, .inl fun _ => 0), .inl (9, 0, .inl fun _ => 0), .inl (9, 0, .inl fun _ => 0)]
def K0 : Nat := 61
/-- a static of which only 'a reference or null' is said -/
def unV (un : Nat → Bool) (i : Nat) : Value := if un i then .null else .ref (58 + i)
def stl (un : Nat → Bool) : List (String × String × String × Value) := [("PasswordGate$Digest", "FIRST", "[J", .ref 0), ("PasswordGate$Digest", "ADDED", "[J", .ref 1), ("PasswordGate$Field", "I", "[J", .ref 2), ("PasswordGate$Field", "ONE", "[J", .ref 3), ("PasswordGate$Curve", "ONE_LESS_SQUARE", "[J", .ref 4), ("PasswordGate$Curve", "D", "[J", .ref 5), ("PasswordGate$Curve", "LESS_ONE_SQUARED", "[J", .ref 6), ("PasswordGate$Curve", "G", "[J", .ref 7), ("PasswordGate$Curve", "TWICE_D", "[J", .ref 8), ("PasswordGate$Curve", "E", "[J", .ref 9), ("PasswordGate$Scalars", "Q", "[J", .ref 10), ("PasswordGate$Curve", "ZERO", "[J", .ref 11), ("PasswordGate$Curve", "BASE_X", "[J", .ref 12), ("PasswordGate$Curve", "BASE_Y", "[J", .ref 13), ("java/lang/String", "COMPACT_STRINGS", "Z", .int 1), ("java/lang/StringUTF16", "$assertionsDisabled", "Z", .int 1), ("java/lang/StringUTF16", "HI_BYTE_SHIFT", "I", .int 0), ("java/lang/StringUTF16", "LO_BYTE_SHIFT", "I", .int 8), ("jdk/internal/util/Preconditions", "SIOOBE_FORMATTER", "Ljava/util/function/BiFunction;", unV un 0), ("java/lang/Throwable", "UNASSIGNED_STACK", "[Ljava/lang/StackTraceElement;", unV un 1), ("java/lang/Throwable", "SUPPRESSED_SENTINEL", "Ljava/util/List;", unV un 2)]
def scl : List (String × Nat × String × Nat) := [("PasswordGate$Kit", 150, "HashToGroup-", 14), ("PasswordGate$Kit", 146, "OPRFV1-", 16), ("PasswordGate$Kit", 148, "-ristretto255-SHA512", 18), ("PasswordGate$Kit", 100, "chance", 20), ("PasswordGate$Server", 65, "OPAQUE-DeriveDiffieHellmanKeyPair", 22), ("PasswordGate$Kit", 165, "DeriveKeyPair", 24), ("PasswordGate$Server", 78, "user", 26), ("PasswordGate$Server", 87, "OprfKey", 28), ("PasswordGate$Server", 99, "OPAQUE-DeriveKeyPair", 30), ("PasswordGate$Kit", 175, "Finalize", 32), ("PasswordGate$Kit", 180, "MaskingKey", 34), ("PasswordGate$Kit", 186, "PrivateKey", 36), ("PasswordGate$Kit", 192, "OPAQUE-DeriveDiffieHellmanKeyPair", 38), ("PasswordGate$Kit", 202, "ExportKey", 40), ("PasswordGate$Kit", 210, "AuthKey", 42), ("PasswordGate$Kit", 216, "CredentialResponsePad", 44), ("PasswordGate$Exchange", 49, "OPAQUEv1-", 46), ("PasswordGate$Exchange", 102, "HandshakeSecret", 48), ("PasswordGate$Keyed", 92, "OPAQUE-", 50), ("PasswordGate$Exchange", 108, "SessionKey", 52), ("PasswordGate$Exchange", 110, "ServerMAC", 54), ("PasswordGate$Exchange", 116, "ClientMAC", 56)]
