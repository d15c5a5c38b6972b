/-! The skeleton of the world that the two constructors make: arrays of numbers without their contents, objects with their fields; the whole numbers among the fields are v 0, v 1 .. -/
set_option maxRecDepth 100000 in
def WS (v : Nat → Int32) : List va_E := [.inl (0, 8, .inr (.inl fun _ => 0)),
  .inl (0, 80, .inr (.inl fun _ => 0)),
  .inl (0, 10, .inr (.inl fun _ => 0)),
  .inl (0, 10, .inr (.inl fun _ => 0)),
  .inl (0, 10, .inr (.inl fun _ => 0)),
  .inl (0, 10, .inr (.inl fun _ => 0)),
  .inl (0, 10, .inr (.inl fun _ => 0)),
  .inl (0, 10, .inr (.inl fun _ => 0)),
  .inl (0, 10, .inr (.inl fun _ => 0)),
  .inl (0, 10, .inr (.inl fun _ => 0)),
  .inl (0, 10, .inr (.inl fun _ => 0)),
  .inl (0, 10, .inr (.inl fun _ => 0)),
  .inl (0, 10, .inr (.inl fun _ => 0)),
  .inl (0, 10, .inr (.inl fun _ => 0)),
  .inr (100, [.ref 15, .int 0]),
  .inl (1, 12, .inl fun _ => 0),
  .inr (100, [.ref 17, .int 0]),
  .inl (1, 7, .inl fun _ => 0),
  .inr (100, [.ref 19, .int 0]),
  .inl (1, 20, .inl fun _ => 0),
  .inr (100, [.ref 21, .int 0]),
  .inl (1, 6, .inl fun _ => 0),
  .inr (100, [.ref 23, .int 0]),
  .inl (1, 33, .inl fun _ => 0),
  .inr (100, [.ref 25, .int 0]),
  .inl (1, 13, .inl fun _ => 0),
  .inr (100, [.ref 27, .int 0]),
  .inl (1, 4, .inl fun _ => 0),
  .inr (100, [.ref 29, .int 0]),
  .inl (1, 7, .inl fun _ => 0),
  .inr (100, [.ref 31, .int 0]),
  .inl (1, 20, .inl fun _ => 0),
  .inr (100, [.ref 33, .int 0]),
  .inl (1, 8, .inl fun _ => 0),
  .inr (100, [.ref 35, .int 0]),
  .inl (1, 10, .inl fun _ => 0),
  .inr (100, [.ref 37, .int 0]),
  .inl (1, 10, .inl fun _ => 0),
  .inr (100, [.ref 39, .int 0]),
  .inl (1, 33, .inl fun _ => 0),
  .inr (100, [.ref 41, .int 0]),
  .inl (1, 9, .inl fun _ => 0),
  .inr (100, [.ref 43, .int 0]),
  .inl (1, 7, .inl fun _ => 0),
  .inr (100, [.ref 45, .int 0]),
  .inl (1, 21, .inl fun _ => 0),
  .inr (100, [.ref 47, .int 0]),
  .inl (1, 9, .inl fun _ => 0),
  .inr (100, [.ref 49, .int 0]),
  .inl (1, 15, .inl fun _ => 0),
  .inr (100, [.ref 51, .int 0]),
  .inl (1, 7, .inl fun _ => 0),
  .inr (100, [.ref 53, .int 0]),
  .inl (1, 10, .inl fun _ => 0),
  .inr (100, [.ref 55, .int 0]),
  .inl (1, 9, .inl fun _ => 0),
  .inr (100, [.ref 57, .int 0]),
  .inl (1, 9, .inl fun _ => 0),
  .inl (9, 0, .inl fun _ => 0),
  .inl (9, 0, .inl fun _ => 0),
  .inl (9, 0, .inl fun _ => 0),
  .inr (0, [.ref 62, .ref 217, .ref 231, .ref 264, .ref 369, .ref 371]),
  .inr (1, [.ref 63, .ref 66, .ref 77, .ref 183, .ref 188, .ref 193, .ref 198, .ref 199, .ref 200, .ref 201, .ref 202, .ref 203, .ref 205, .ref 206, .ref 207, .ref 212, .ref 213, .ref 215, .int (v 0), .int (v 1)]),
  .inr (2, [.ref 64, .ref 65]),
  .inl (0, 8, .inr (.inl fun _ => 0)),
  .inl (0, 80, .inr (.inl fun _ => 0)),
  .inr (3, [.ref 67, .ref 70, .ref 72, .ref 74, .ref 75, .ref 76]),
  .inr (2, [.ref 68, .ref 69]),
  .inl (0, 8, .inr (.inl fun _ => 0)),
  .inl (0, 80, .inr (.inl fun _ => 0)),
  .inr (4, [.ref 71, .int (v 2)]),
  .inl (1, 400, .inl fun _ => 0),
  .inr (4, [.ref 73, .int (v 3)]),
  .inl (1, 200, .inl fun _ => 0),
  .inl (1, 64, .inl fun _ => 0),
  .inl (1, 64, .inl fun _ => 0),
  .inl (1, 64, .inl fun _ => 0),
  .inr (5, [.ref 78, .ref 86, .ref 87, .ref 92, .ref 94, .ref 95, .ref 96, .ref 97, .ref 98, .ref 99, .ref 100, .ref 101, .ref 102]),
  .inr (6, [.ref 79, .ref 80, .ref 81, .ref 82, .ref 83, .ref 84, .ref 85]),
  .inl (0, 10, .inr (.inl fun _ => 0)),
  .inl (0, 10, .inr (.inl fun _ => 0)),
  .inl (0, 10, .inr (.inl fun _ => 0)),
  .inl (0, 10, .inr (.inl fun _ => 0)),
  .inl (0, 10, .inr (.inl fun _ => 0)),
  .inl (0, 10, .inr (.inl fun _ => 0)),
  .inl (0, 10, .inr (.inl fun _ => 0)),
  .inl (4, 16, .inr (.inr (.inr (.inr fun j => [some 103, some 108, some 113, some 118, some 123, some 128, some 133, some 138, some 143, some 148, some 153, some 158, some 163, some 168, some 173, some 178].getD j none)))),
  .inr (7, [.ref 88, .ref 89, .ref 90, .ref 91]),
  .inl (0, 10, .inr (.inl fun _ => 0)),
  .inl (0, 10, .inr (.inl fun _ => 0)),
  .inl (0, 10, .inr (.inl fun _ => 0)),
  .inl (0, 10, .inr (.inl fun _ => 0)),
  .inr (4, [.ref 93, .int (v 4)]),
  .inl (1, 32, .inl fun _ => 0),
  .inl (0, 10, .inr (.inl fun _ => 0)),
  .inl (0, 10, .inr (.inl fun _ => 0)),
  .inl (0, 10, .inr (.inl fun _ => 0)),
  .inl (0, 10, .inr (.inl fun _ => 0)),
  .inl (0, 10, .inr (.inl fun _ => 0)),
  .inl (0, 10, .inr (.inl fun _ => 0)),
  .inl (0, 10, .inr (.inl fun _ => 0)),
  .inl (0, 10, .inr (.inl fun _ => 0)),
  .inl (0, 10, .inr (.inl fun _ => 0)),
  .inr (7, [.ref 104, .ref 105, .ref 106, .ref 107]),
  .inl (0, 10, .inr (.inl fun _ => 0)),
  .inl (0, 10, .inr (.inl fun _ => 0)),
  .inl (0, 10, .inr (.inl fun _ => 0)),
  .inl (0, 10, .inr (.inl fun _ => 0)),
  .inr (7, [.ref 109, .ref 110, .ref 111, .ref 112]),
  .inl (0, 10, .inr (.inl fun _ => 0)),
  .inl (0, 10, .inr (.inl fun _ => 0)),
  .inl (0, 10, .inr (.inl fun _ => 0)),
  .inl (0, 10, .inr (.inl fun _ => 0)),
  .inr (7, [.ref 114, .ref 115, .ref 116, .ref 117]),
  .inl (0, 10, .inr (.inl fun _ => 0)),
  .inl (0, 10, .inr (.inl fun _ => 0)),
  .inl (0, 10, .inr (.inl fun _ => 0)),
  .inl (0, 10, .inr (.inl fun _ => 0)),
  .inr (7, [.ref 119, .ref 120, .ref 121, .ref 122]),
  .inl (0, 10, .inr (.inl fun _ => 0)),
  .inl (0, 10, .inr (.inl fun _ => 0)),
  .inl (0, 10, .inr (.inl fun _ => 0)),
  .inl (0, 10, .inr (.inl fun _ => 0)),
  .inr (7, [.ref 124, .ref 125, .ref 126, .ref 127]),
  .inl (0, 10, .inr (.inl fun _ => 0)),
  .inl (0, 10, .inr (.inl fun _ => 0)),
  .inl (0, 10, .inr (.inl fun _ => 0)),
  .inl (0, 10, .inr (.inl fun _ => 0)),
  .inr (7, [.ref 129, .ref 130, .ref 131, .ref 132]),
  .inl (0, 10, .inr (.inl fun _ => 0)),
  .inl (0, 10, .inr (.inl fun _ => 0)),
  .inl (0, 10, .inr (.inl fun _ => 0)),
  .inl (0, 10, .inr (.inl fun _ => 0)),
  .inr (7, [.ref 134, .ref 135, .ref 136, .ref 137]),
  .inl (0, 10, .inr (.inl fun _ => 0)),
  .inl (0, 10, .inr (.inl fun _ => 0)),
  .inl (0, 10, .inr (.inl fun _ => 0)),
  .inl (0, 10, .inr (.inl fun _ => 0)),
  .inr (7, [.ref 139, .ref 140, .ref 141, .ref 142]),
  .inl (0, 10, .inr (.inl fun _ => 0)),
  .inl (0, 10, .inr (.inl fun _ => 0)),
  .inl (0, 10, .inr (.inl fun _ => 0)),
  .inl (0, 10, .inr (.inl fun _ => 0)),
  .inr (7, [.ref 144, .ref 145, .ref 146, .ref 147]),
  .inl (0, 10, .inr (.inl fun _ => 0)),
  .inl (0, 10, .inr (.inl fun _ => 0)),
  .inl (0, 10, .inr (.inl fun _ => 0)),
  .inl (0, 10, .inr (.inl fun _ => 0)),
  .inr (7, [.ref 149, .ref 150, .ref 151, .ref 152]),
  .inl (0, 10, .inr (.inl fun _ => 0)),
  .inl (0, 10, .inr (.inl fun _ => 0)),
  .inl (0, 10, .inr (.inl fun _ => 0)),
  .inl (0, 10, .inr (.inl fun _ => 0)),
  .inr (7, [.ref 154, .ref 155, .ref 156, .ref 157]),
  .inl (0, 10, .inr (.inl fun _ => 0)),
  .inl (0, 10, .inr (.inl fun _ => 0)),
  .inl (0, 10, .inr (.inl fun _ => 0)),
  .inl (0, 10, .inr (.inl fun _ => 0)),
  .inr (7, [.ref 159, .ref 160, .ref 161, .ref 162]),
  .inl (0, 10, .inr (.inl fun _ => 0)),
  .inl (0, 10, .inr (.inl fun _ => 0)),
  .inl (0, 10, .inr (.inl fun _ => 0)),
  .inl (0, 10, .inr (.inl fun _ => 0)),
  .inr (7, [.ref 164, .ref 165, .ref 166, .ref 167]),
  .inl (0, 10, .inr (.inl fun _ => 0)),
  .inl (0, 10, .inr (.inl fun _ => 0)),
  .inl (0, 10, .inr (.inl fun _ => 0)),
  .inl (0, 10, .inr (.inl fun _ => 0)),
  .inr (7, [.ref 169, .ref 170, .ref 171, .ref 172]),
  .inl (0, 10, .inr (.inl fun _ => 0)),
  .inl (0, 10, .inr (.inl fun _ => 0)),
  .inl (0, 10, .inr (.inl fun _ => 0)),
  .inl (0, 10, .inr (.inl fun _ => 0)),
  .inr (7, [.ref 174, .ref 175, .ref 176, .ref 177]),
  .inl (0, 10, .inr (.inl fun _ => 0)),
  .inl (0, 10, .inr (.inl fun _ => 0)),
  .inl (0, 10, .inr (.inl fun _ => 0)),
  .inl (0, 10, .inr (.inl fun _ => 0)),
  .inr (7, [.ref 179, .ref 180, .ref 181, .ref 182]),
  .inl (0, 10, .inr (.inl fun _ => 0)),
  .inl (0, 10, .inr (.inl fun _ => 0)),
  .inl (0, 10, .inr (.inl fun _ => 0)),
  .inl (0, 10, .inr (.inl fun _ => 0)),
  .inr (8, [.ref 184, .ref 185, .ref 186, .ref 187]),
  .inl (0, 20, .inr (.inl fun _ => 0)),
  .inl (0, 20, .inr (.inl fun _ => 0)),
  .inl (0, 20, .inr (.inl fun _ => 0)),
  .inl (0, 20, .inr (.inl fun _ => 0)),
  .inr (7, [.ref 189, .ref 190, .ref 191, .ref 192]),
  .inl (0, 10, .inr (.inl fun _ => 0)),
  .inl (0, 10, .inr (.inl fun _ => 0)),
  .inl (0, 10, .inr (.inl fun _ => 0)),
  .inl (0, 10, .inr (.inl fun _ => 0)),
  .inr (7, [.ref 194, .ref 195, .ref 196, .ref 197]),
  .inl (0, 10, .inr (.inl fun _ => 0)),
  .inl (0, 10, .inr (.inl fun _ => 0)),
  .inl (0, 10, .inr (.inl fun _ => 0)),
  .inl (0, 10, .inr (.inl fun _ => 0)),
  .inl (1, 32, .inl fun _ => 0),
  .inl (1, 64, .inl fun _ => 0),
  .inl (1, 64, .inl fun _ => 0),
  .inl (1, 64, .inl fun _ => 0),
  .inl (1, 32, .inl fun _ => 0),
  .inr (4, [.ref 204, .int (v 5)]),
  .inl (1, 32, .inl fun _ => 0),
  .inl (1, 64, .inl fun _ => 0),
  .inl (1, 64, .inl fun _ => 0),
  .inr (7, [.ref 208, .ref 209, .ref 210, .ref 211]),
  .inl (0, 10, .inr (.inl fun _ => 0)),
  .inl (0, 10, .inr (.inl fun _ => 0)),
  .inl (0, 10, .inr (.inl fun _ => 0)),
  .inl (0, 10, .inr (.inl fun _ => 0)),
  .inl (1, 128, .inl fun _ => 0),
  .inr (4, [.ref 214, .int (v 6)]),
  .inl (1, 400, .inl fun _ => 0),
  .inr (4, [.ref 216, .int (v 7)]),
  .inl (1, 150, .inl fun _ => 0),
  .inr (9, [.ref 218, .ref 219, .ref 220, .ref 221, .ref 223, .ref 225, .ref 227, .ref 228, .ref 229, .ref 230]),
  .inl (1, 64, .inl fun _ => 0),
  .inl (1, 64, .inl fun _ => 0),
  .inl (1, 64, .inl fun _ => 0),
  .inr (4, [.ref 222, .int (v 8)]),
  .inl (1, 500, .inl fun _ => 0),
  .inr (4, [.ref 224, .int (v 9)]),
  .inl (1, 96, .inl fun _ => 0),
  .inr (4, [.ref 226, .int (v 10)]),
  .inl (1, 64, .inl fun _ => 0),
  .inl (1, 64, .inl fun _ => 0),
  .inl (1, 64, .inl fun _ => 0),
  .inl (1, 64, .inl fun _ => 0),
  .inl (1, 64, .inl fun _ => 0),
  .inr (10, [.ref 232, .ref 233, .ref 235, .ref 237, .ref 239, .ref 241, .ref 242, .ref 243, .ref 245, .ref 246, .ref 247]),
  .inl (5, 8, .inr (.inr (.inr (.inr fun j => [some 248, some 250, some 252, some 254, some 256, some 258, some 260, some 262].getD j none)))),
  .inr (4, [.ref 234, .int (v 11)]),
  .inl (1, 192, .inl fun _ => 0),
  .inr (4, [.ref 236, .int (v 12)]),
  .inl (1, 128, .inl fun _ => 0),
  .inr (4, [.ref 238, .int (v 13)]),
  .inl (1, 32, .inl fun _ => 0),
  .inr (4, [.ref 240, .int (v 14)]),
  .inl (1, 20, .inl fun _ => 0),
  .inl (1, 64, .inl fun _ => 0),
  .inl (1, 32, .inl fun _ => 0),
  .inr (4, [.ref 244, .int (v 15)]),
  .inl (1, 32, .inl fun _ => 0),
  .inl (1, 32, .inl fun _ => 0),
  .inl (1, 32, .inl fun _ => 0),
  .inl (1, 64, .inl fun _ => 0),
  .inr (4, [.ref 249, .int (v 16)]),
  .inl (1, 192, .inl fun _ => 0),
  .inr (4, [.ref 251, .int (v 17)]),
  .inl (1, 192, .inl fun _ => 0),
  .inr (4, [.ref 253, .int (v 18)]),
  .inl (1, 192, .inl fun _ => 0),
  .inr (4, [.ref 255, .int (v 19)]),
  .inl (1, 192, .inl fun _ => 0),
  .inr (4, [.ref 257, .int (v 20)]),
  .inl (1, 192, .inl fun _ => 0),
  .inr (4, [.ref 259, .int (v 21)]),
  .inl (1, 192, .inl fun _ => 0),
  .inr (4, [.ref 261, .int (v 22)]),
  .inl (1, 192, .inl fun _ => 0),
  .inr (4, [.ref 263, .int (v 23)]),
  .inl (1, 192, .inl fun _ => 0),
  .inl (6, 4, .inr (.inr (.inr (.inr fun j => [some 265, some 291, some 317, some 343].getD j none)))),
  .inr (11, [.ref 266, .ref 267, .ref 268, .ref 269, .int (v 24), .ref 270, .ref 271, .ref 273, .ref 275, .ref 277, .ref 278]),
  .inl (5, 3, .inr (.inr (.inr (.inr fun j => [some 279, some 281, some 283].getD j none)))),
  .inl (5, 3, .inr (.inr (.inr (.inr fun j => [some 285, some 287, some 289].getD j none)))),
  .inl (1, 64, .inl fun _ => 0),
  .inl (1, 64, .inl fun _ => 0),
  .inl (3, 3, .inl fun q => [v 76, v 77, v 78].getD q 0),
  .inr (4, [.ref 272, .int (v 25)]),
  .inl (1, 200, .inl fun _ => 0),
  .inr (4, [.ref 274, .int (v 26)]),
  .inl (1, 96, .inl fun _ => 0),
  .inr (4, [.ref 276, .int (v 27)]),
  .inl (1, 128, .inl fun _ => 0),
  .inl (1, 32, .inl fun _ => 0),
  .inl (1, 32, .inl fun _ => 0),
  .inr (4, [.ref 280, .int (v 28)]),
  .inl (1, 96, .inl fun _ => 0),
  .inr (4, [.ref 282, .int (v 29)]),
  .inl (1, 320, .inl fun _ => 0),
  .inr (4, [.ref 284, .int (v 30)]),
  .inl (1, 64, .inl fun _ => 0),
  .inr (4, [.ref 286, .int (v 31)]),
  .inl (1, 64, .inl fun _ => 0),
  .inr (4, [.ref 288, .int (v 32)]),
  .inl (1, 64, .inl fun _ => 0),
  .inr (4, [.ref 290, .int (v 33)]),
  .inl (1, 64, .inl fun _ => 0),
  .inr (11, [.ref 292, .ref 293, .ref 294, .ref 295, .int (v 34), .ref 296, .ref 297, .ref 299, .ref 301, .ref 303, .ref 304]),
  .inl (5, 3, .inr (.inr (.inr (.inr fun j => [some 305, some 307, some 309].getD j none)))),
  .inl (5, 3, .inr (.inr (.inr (.inr fun j => [some 311, some 313, some 315].getD j none)))),
  .inl (1, 64, .inl fun _ => 0),
  .inl (1, 64, .inl fun _ => 0),
  .inl (3, 3, .inl fun q => [v 79, v 80, v 81].getD q 0),
  .inr (4, [.ref 298, .int (v 35)]),
  .inl (1, 200, .inl fun _ => 0),
  .inr (4, [.ref 300, .int (v 36)]),
  .inl (1, 96, .inl fun _ => 0),
  .inr (4, [.ref 302, .int (v 37)]),
  .inl (1, 128, .inl fun _ => 0),
  .inl (1, 32, .inl fun _ => 0),
  .inl (1, 32, .inl fun _ => 0),
  .inr (4, [.ref 306, .int (v 38)]),
  .inl (1, 96, .inl fun _ => 0),
  .inr (4, [.ref 308, .int (v 39)]),
  .inl (1, 320, .inl fun _ => 0),
  .inr (4, [.ref 310, .int (v 40)]),
  .inl (1, 64, .inl fun _ => 0),
  .inr (4, [.ref 312, .int (v 41)]),
  .inl (1, 64, .inl fun _ => 0),
  .inr (4, [.ref 314, .int (v 42)]),
  .inl (1, 64, .inl fun _ => 0),
  .inr (4, [.ref 316, .int (v 43)]),
  .inl (1, 64, .inl fun _ => 0),
  .inr (11, [.ref 318, .ref 319, .ref 320, .ref 321, .int (v 44), .ref 322, .ref 323, .ref 325, .ref 327, .ref 329, .ref 330]),
  .inl (5, 3, .inr (.inr (.inr (.inr fun j => [some 331, some 333, some 335].getD j none)))),
  .inl (5, 3, .inr (.inr (.inr (.inr fun j => [some 337, some 339, some 341].getD j none)))),
  .inl (1, 64, .inl fun _ => 0),
  .inl (1, 64, .inl fun _ => 0),
  .inl (3, 3, .inl fun q => [v 82, v 83, v 84].getD q 0),
  .inr (4, [.ref 324, .int (v 45)]),
  .inl (1, 200, .inl fun _ => 0),
  .inr (4, [.ref 326, .int (v 46)]),
  .inl (1, 96, .inl fun _ => 0),
  .inr (4, [.ref 328, .int (v 47)]),
  .inl (1, 128, .inl fun _ => 0),
  .inl (1, 32, .inl fun _ => 0),
  .inl (1, 32, .inl fun _ => 0),
  .inr (4, [.ref 332, .int (v 48)]),
  .inl (1, 96, .inl fun _ => 0),
  .inr (4, [.ref 334, .int (v 49)]),
  .inl (1, 320, .inl fun _ => 0),
  .inr (4, [.ref 336, .int (v 50)]),
  .inl (1, 64, .inl fun _ => 0),
  .inr (4, [.ref 338, .int (v 51)]),
  .inl (1, 64, .inl fun _ => 0),
  .inr (4, [.ref 340, .int (v 52)]),
  .inl (1, 64, .inl fun _ => 0),
  .inr (4, [.ref 342, .int (v 53)]),
  .inl (1, 64, .inl fun _ => 0),
  .inr (11, [.ref 344, .ref 345, .ref 346, .ref 347, .int (v 54), .ref 348, .ref 349, .ref 351, .ref 353, .ref 355, .ref 356]),
  .inl (5, 3, .inr (.inr (.inr (.inr fun j => [some 357, some 359, some 361].getD j none)))),
  .inl (5, 3, .inr (.inr (.inr (.inr fun j => [some 363, some 365, some 367].getD j none)))),
  .inl (1, 64, .inl fun _ => 0),
  .inl (1, 64, .inl fun _ => 0),
  .inl (3, 3, .inl fun q => [v 85, v 86, v 87].getD q 0),
  .inr (4, [.ref 350, .int (v 55)]),
  .inl (1, 200, .inl fun _ => 0),
  .inr (4, [.ref 352, .int (v 56)]),
  .inl (1, 96, .inl fun _ => 0),
  .inr (4, [.ref 354, .int (v 57)]),
  .inl (1, 128, .inl fun _ => 0),
  .inl (1, 32, .inl fun _ => 0),
  .inl (1, 32, .inl fun _ => 0),
  .inr (4, [.ref 358, .int (v 58)]),
  .inl (1, 96, .inl fun _ => 0),
  .inr (4, [.ref 360, .int (v 59)]),
  .inl (1, 320, .inl fun _ => 0),
  .inr (4, [.ref 362, .int (v 60)]),
  .inl (1, 64, .inl fun _ => 0),
  .inr (4, [.ref 364, .int (v 61)]),
  .inl (1, 64, .inl fun _ => 0),
  .inr (4, [.ref 366, .int (v 62)]),
  .inl (1, 64, .inl fun _ => 0),
  .inr (4, [.ref 368, .int (v 63)]),
  .inl (1, 64, .inl fun _ => 0),
  .inr (4, [.ref 370, .int (v 64)]),
  .inl (1, 200, .inl fun _ => 0),
  .inr (4, [.ref 372, .int (v 65)]),
  .inl (1, 64, .inl fun _ => 0),
  .inr (12, [.int (v 66), .ref 374, .int (v 67), .ref 375, .ref 376, .ref 377, .ref 378, .ref 379, .ref 380, .ref 381, .ref 382, .ref 383, .ref 384, .int (v 68), .ref 385, .ref 386, .ref 387, .int (v 69), .ref 388, .ref 389, .int (v 70), .ref 390, .ref 391, .ref 392, .ref 393, .ref 394, .ref 395, .ref 396, .ref 397, .ref 398, .ref 399, .ref 400, .ref 401, .int (v 71), .int (v 72), .ref 402, .ref 403, .ref 404, .ref 405, .ref 406, .ref 407, .ref 408, .ref 409, .int (v 73), .ref 410, .int (v 74), .ref 411, .ref 412, .ref 413, .ref 414, .ref 415, .ref 416, .ref 417, .ref 418, .ref 419, .ref 420, .ref 421, .ref 422, .ref 423, .ref 424, .ref 425, .ref 426, .ref 427, .ref 428, .ref 429, .ref 430, .ref 431, .ref 432, .ref 433, .ref 434, .ref 435, .ref 436, .ref 437, .ref 438, .ref 439, .ref 440, .ref 441, .int (v 75), .ref 442, .ref 443, .ref 444, .ref 445, .ref 446, .ref 447, .ref 448, .ref 449, .ref 450]),
  .inl (2, 4000, .inl fun _ => 0),
  .inl (0, 80, .inr (.inl fun _ => 0)),
  .inl (0, 8, .inr (.inl fun _ => 0)),
  .inl (0, 5, .inr (.inl fun _ => 0)),
  .inl (0, 12, .inr (.inl fun _ => 0)),
  .inl (0, 20, .inr (.inl fun _ => 0)),
  .inl (0, 80, .inr (.inl fun _ => 0)),
  .inl (0, 8, .inr (.inl fun _ => 0)),
  .inl (0, 8, .inr (.inl fun _ => 0)),
  .inl (2, 64, .inl fun _ => 0),
  .inl (2, 2000, .inl fun _ => 0),
  .inl (2, 64, .inl fun _ => 0),
  .inl (2, 64, .inl fun _ => 0),
  .inl (2, 400, .inl fun _ => 0),
  .inl (2, 192, .inl fun _ => 0),
  .inl (2, 100, .inl fun _ => 0),
  .inl (0, 1024, .inr (.inl fun _ => 0)),
  .inl (0, 31, .inr (.inl fun _ => 0)),
  .inl (0, 16, .inr (.inl fun _ => 0)),
  .inl (0, 16, .inr (.inl fun _ => 0)),
  .inl (2, 32, .inl fun _ => 0),
  .inl (0, 16, .inr (.inl fun _ => 0)),
  .inl (0, 17, .inr (.inl fun _ => 0)),
  .inl (0, 17, .inr (.inl fun _ => 0)),
  .inl (0, 32, .inr (.inl fun _ => 0)),
  .inl (0, 16, .inr (.inl fun _ => 0)),
  .inl (0, 16, .inr (.inl fun _ => 0)),
  .inl (2, 400, .inl fun _ => 0),
  .inl (2, 64, .inl fun _ => 0),
  .inl (0, 16, .inr (.inl fun _ => 0)),
  .inl (2, 32, .inl fun _ => 0),
  .inl (3, 8, .inl fun _ => 0),
  .inl (2, 1536, .inl fun _ => 0),
  .inl (2, 192, .inl fun _ => 0),
  .inl (2, 400, .inl fun _ => 0),
  .inl (2, 200, .inl fun _ => 0),
  .inl (2, 64, .inl fun _ => 0),
  .inl (2, 64, .inl fun _ => 0),
  .inl (2, 32, .inl fun _ => 0),
  .inl (2, 32, .inl fun _ => 0),
  .inl (0, 16, .inr (.inl fun _ => 0)),
  .inl (2, 64, .inl fun _ => 0),
  .inl (2, 64, .inl fun _ => 0),
  .inl (2, 64, .inl fun _ => 0),
  .inl (0, 16, .inr (.inl fun _ => 0)),
  .inl (2, 4, .inl fun q => [v 88, v 89, v 90, v 91].getD q 0),
  .inl (2, 800, .inl fun _ => 0),
  .inl (2, 4, .inl fun q => [v 92, v 93, v 94, v 95].getD q 0),
  .inl (0, 64, .inr (.inl fun _ => 0)),
  .inl (0, 64, .inr (.inl fun _ => 0)),
  .inl (3, 4, .inl fun q => [v 96, v 97, v 98, v 99].getD q 0),
  .inl (3, 4, .inl fun q => [v 100, v 101, v 102, v 103].getD q 0),
  .inl (3, 4, .inl fun q => [v 104, v 105, v 106, v 107].getD q 0),
  .inl (3, 4, .inl fun q => [v 108, v 109, v 110, v 111].getD q 0),
  .inl (3, 4, .inl fun q => [v 112, v 113, v 114, v 115].getD q 0),
  .inl (3, 4, .inl fun q => [v 116, v 117, v 118, v 119].getD q 0),
  .inl (3, 4, .inl fun q => [v 120, v 121, v 122, v 123].getD q 0),
  .inl (3, 4, .inl fun q => [v 124, v 125, v 126, v 127].getD q 0),
  .inl (2, 384, .inl fun _ => 0),
  .inl (2, 384, .inl fun _ => 0),
  .inl (2, 1280, .inl fun _ => 0),
  .inl (2, 256, .inl fun _ => 0),
  .inl (2, 256, .inl fun _ => 0),
  .inl (2, 256, .inl fun _ => 0),
  .inl (2, 256, .inl fun _ => 0),
  .inl (2, 256, .inl fun _ => 0),
  .inl (2, 96, .inl fun _ => 0),
  .inl (2, 500, .inl fun _ => 0),
  .inl (2, 64, .inl fun _ => 0),
  .inl (2, 64, .inl fun _ => 0),
  .inl (2, 64, .inl fun _ => 0),
  .inl (2, 64, .inl fun _ => 0),
  .inl (2, 64, .inl fun _ => 0),
  .inl (2, 64, .inl fun _ => 0),
  .inl (2, 128, .inl fun _ => 0),
  .inl (0, 16, .inr (.inl fun _ => 0)),
  .inl (2, 128, .inl fun _ => 0)]
def WN : Nat := 451
set_option maxRecDepth 100000 in
theorem w0 : ∀ v, (WS v)[0]? = some (.inl (0, 8, .inr (.inl fun _ => 0))) := fun _ => rfl
set_option maxRecDepth 100000 in
theorem w1 : ∀ v, (WS v)[1]? = some (.inl (0, 80, .inr (.inl fun _ => 0))) := fun _ => rfl
set_option maxRecDepth 100000 in
theorem w2 : ∀ v, (WS v)[2]? = some (.inl (0, 10, .inr (.inl fun _ => 0))) := fun _ => rfl
set_option maxRecDepth 100000 in
theorem w3 : ∀ v, (WS v)[3]? = some (.inl (0, 10, .inr (.inl fun _ => 0))) := fun _ => rfl
set_option maxRecDepth 100000 in
theorem w4 : ∀ v, (WS v)[4]? = some (.inl (0, 10, .inr (.inl fun _ => 0))) := fun _ => rfl
set_option maxRecDepth 100000 in
theorem w5 : ∀ v, (WS v)[5]? = some (.inl (0, 10, .inr (.inl fun _ => 0))) := fun _ => rfl
set_option maxRecDepth 100000 in
theorem w6 : ∀ v, (WS v)[6]? = some (.inl (0, 10, .inr (.inl fun _ => 0))) := fun _ => rfl
set_option maxRecDepth 100000 in
theorem w7 : ∀ v, (WS v)[7]? = some (.inl (0, 10, .inr (.inl fun _ => 0))) := fun _ => rfl
set_option maxRecDepth 100000 in
theorem w8 : ∀ v, (WS v)[8]? = some (.inl (0, 10, .inr (.inl fun _ => 0))) := fun _ => rfl
set_option maxRecDepth 100000 in
theorem w9 : ∀ v, (WS v)[9]? = some (.inl (0, 10, .inr (.inl fun _ => 0))) := fun _ => rfl
set_option maxRecDepth 100000 in
theorem w10 : ∀ v, (WS v)[10]? = some (.inl (0, 10, .inr (.inl fun _ => 0))) := fun _ => rfl
set_option maxRecDepth 100000 in
theorem w11 : ∀ v, (WS v)[11]? = some (.inl (0, 10, .inr (.inl fun _ => 0))) := fun _ => rfl
set_option maxRecDepth 100000 in
theorem w12 : ∀ v, (WS v)[12]? = some (.inl (0, 10, .inr (.inl fun _ => 0))) := fun _ => rfl
set_option maxRecDepth 100000 in
theorem w13 : ∀ v, (WS v)[13]? = some (.inl (0, 10, .inr (.inl fun _ => 0))) := fun _ => rfl
set_option maxRecDepth 100000 in
theorem w14 : ∀ v, (WS v)[14]? = some (.inr (100, [.ref 15, .int 0])) := fun _ => rfl
set_option maxRecDepth 100000 in
theorem w15 : ∀ v, (WS v)[15]? = some (.inl (1, 12, .inl fun _ => 0)) := fun _ => rfl
set_option maxRecDepth 100000 in
theorem w16 : ∀ v, (WS v)[16]? = some (.inr (100, [.ref 17, .int 0])) := fun _ => rfl
set_option maxRecDepth 100000 in
theorem w17 : ∀ v, (WS v)[17]? = some (.inl (1, 7, .inl fun _ => 0)) := fun _ => rfl
set_option maxRecDepth 100000 in
theorem w18 : ∀ v, (WS v)[18]? = some (.inr (100, [.ref 19, .int 0])) := fun _ => rfl
set_option maxRecDepth 100000 in
theorem w19 : ∀ v, (WS v)[19]? = some (.inl (1, 20, .inl fun _ => 0)) := fun _ => rfl
set_option maxRecDepth 100000 in
theorem w20 : ∀ v, (WS v)[20]? = some (.inr (100, [.ref 21, .int 0])) := fun _ => rfl
set_option maxRecDepth 100000 in
theorem w21 : ∀ v, (WS v)[21]? = some (.inl (1, 6, .inl fun _ => 0)) := fun _ => rfl
set_option maxRecDepth 100000 in
theorem w22 : ∀ v, (WS v)[22]? = some (.inr (100, [.ref 23, .int 0])) := fun _ => rfl
set_option maxRecDepth 100000 in
theorem w23 : ∀ v, (WS v)[23]? = some (.inl (1, 33, .inl fun _ => 0)) := fun _ => rfl
set_option maxRecDepth 100000 in
theorem w24 : ∀ v, (WS v)[24]? = some (.inr (100, [.ref 25, .int 0])) := fun _ => rfl
set_option maxRecDepth 100000 in
theorem w25 : ∀ v, (WS v)[25]? = some (.inl (1, 13, .inl fun _ => 0)) := fun _ => rfl
set_option maxRecDepth 100000 in
theorem w26 : ∀ v, (WS v)[26]? = some (.inr (100, [.ref 27, .int 0])) := fun _ => rfl
set_option maxRecDepth 100000 in
theorem w27 : ∀ v, (WS v)[27]? = some (.inl (1, 4, .inl fun _ => 0)) := fun _ => rfl
set_option maxRecDepth 100000 in
theorem w28 : ∀ v, (WS v)[28]? = some (.inr (100, [.ref 29, .int 0])) := fun _ => rfl
set_option maxRecDepth 100000 in
theorem w29 : ∀ v, (WS v)[29]? = some (.inl (1, 7, .inl fun _ => 0)) := fun _ => rfl
set_option maxRecDepth 100000 in
theorem w30 : ∀ v, (WS v)[30]? = some (.inr (100, [.ref 31, .int 0])) := fun _ => rfl
set_option maxRecDepth 100000 in
theorem w31 : ∀ v, (WS v)[31]? = some (.inl (1, 20, .inl fun _ => 0)) := fun _ => rfl
set_option maxRecDepth 100000 in
theorem w32 : ∀ v, (WS v)[32]? = some (.inr (100, [.ref 33, .int 0])) := fun _ => rfl
set_option maxRecDepth 100000 in
theorem w33 : ∀ v, (WS v)[33]? = some (.inl (1, 8, .inl fun _ => 0)) := fun _ => rfl
set_option maxRecDepth 100000 in
theorem w34 : ∀ v, (WS v)[34]? = some (.inr (100, [.ref 35, .int 0])) := fun _ => rfl
set_option maxRecDepth 100000 in
theorem w35 : ∀ v, (WS v)[35]? = some (.inl (1, 10, .inl fun _ => 0)) := fun _ => rfl
set_option maxRecDepth 100000 in
theorem w36 : ∀ v, (WS v)[36]? = some (.inr (100, [.ref 37, .int 0])) := fun _ => rfl
set_option maxRecDepth 100000 in
theorem w37 : ∀ v, (WS v)[37]? = some (.inl (1, 10, .inl fun _ => 0)) := fun _ => rfl
set_option maxRecDepth 100000 in
theorem w38 : ∀ v, (WS v)[38]? = some (.inr (100, [.ref 39, .int 0])) := fun _ => rfl
set_option maxRecDepth 100000 in
theorem w39 : ∀ v, (WS v)[39]? = some (.inl (1, 33, .inl fun _ => 0)) := fun _ => rfl
set_option maxRecDepth 100000 in
theorem w40 : ∀ v, (WS v)[40]? = some (.inr (100, [.ref 41, .int 0])) := fun _ => rfl
set_option maxRecDepth 100000 in
theorem w41 : ∀ v, (WS v)[41]? = some (.inl (1, 9, .inl fun _ => 0)) := fun _ => rfl
set_option maxRecDepth 100000 in
theorem w42 : ∀ v, (WS v)[42]? = some (.inr (100, [.ref 43, .int 0])) := fun _ => rfl
set_option maxRecDepth 100000 in
theorem w43 : ∀ v, (WS v)[43]? = some (.inl (1, 7, .inl fun _ => 0)) := fun _ => rfl
set_option maxRecDepth 100000 in
theorem w44 : ∀ v, (WS v)[44]? = some (.inr (100, [.ref 45, .int 0])) := fun _ => rfl
set_option maxRecDepth 100000 in
theorem w45 : ∀ v, (WS v)[45]? = some (.inl (1, 21, .inl fun _ => 0)) := fun _ => rfl
set_option maxRecDepth 100000 in
theorem w46 : ∀ v, (WS v)[46]? = some (.inr (100, [.ref 47, .int 0])) := fun _ => rfl
set_option maxRecDepth 100000 in
theorem w47 : ∀ v, (WS v)[47]? = some (.inl (1, 9, .inl fun _ => 0)) := fun _ => rfl
set_option maxRecDepth 100000 in
theorem w48 : ∀ v, (WS v)[48]? = some (.inr (100, [.ref 49, .int 0])) := fun _ => rfl
set_option maxRecDepth 100000 in
theorem w49 : ∀ v, (WS v)[49]? = some (.inl (1, 15, .inl fun _ => 0)) := fun _ => rfl
set_option maxRecDepth 100000 in
theorem w50 : ∀ v, (WS v)[50]? = some (.inr (100, [.ref 51, .int 0])) := fun _ => rfl
set_option maxRecDepth 100000 in
theorem w51 : ∀ v, (WS v)[51]? = some (.inl (1, 7, .inl fun _ => 0)) := fun _ => rfl
set_option maxRecDepth 100000 in
theorem w52 : ∀ v, (WS v)[52]? = some (.inr (100, [.ref 53, .int 0])) := fun _ => rfl
set_option maxRecDepth 100000 in
theorem w53 : ∀ v, (WS v)[53]? = some (.inl (1, 10, .inl fun _ => 0)) := fun _ => rfl
set_option maxRecDepth 100000 in
theorem w54 : ∀ v, (WS v)[54]? = some (.inr (100, [.ref 55, .int 0])) := fun _ => rfl
set_option maxRecDepth 100000 in
theorem w55 : ∀ v, (WS v)[55]? = some (.inl (1, 9, .inl fun _ => 0)) := fun _ => rfl
set_option maxRecDepth 100000 in
theorem w56 : ∀ v, (WS v)[56]? = some (.inr (100, [.ref 57, .int 0])) := fun _ => rfl
set_option maxRecDepth 100000 in
theorem w57 : ∀ v, (WS v)[57]? = some (.inl (1, 9, .inl fun _ => 0)) := fun _ => rfl
set_option maxRecDepth 100000 in
theorem w58 : ∀ v, (WS v)[58]? = some (.inl (9, 0, .inl fun _ => 0)) := fun _ => rfl
set_option maxRecDepth 100000 in
theorem w59 : ∀ v, (WS v)[59]? = some (.inl (9, 0, .inl fun _ => 0)) := fun _ => rfl
set_option maxRecDepth 100000 in
theorem w60 : ∀ v, (WS v)[60]? = some (.inl (9, 0, .inl fun _ => 0)) := fun _ => rfl
set_option maxRecDepth 100000 in
theorem w61 : ∀ v, (WS v)[61]? = some (.inr (0, [.ref 62, .ref 217, .ref 231, .ref 264, .ref 369, .ref 371])) := fun _ => rfl
set_option maxRecDepth 100000 in
theorem w62 : ∀ v, (WS v)[62]? = some (.inr (1, [.ref 63, .ref 66, .ref 77, .ref 183, .ref 188, .ref 193, .ref 198, .ref 199, .ref 200, .ref 201, .ref 202, .ref 203, .ref 205, .ref 206, .ref 207, .ref 212, .ref 213, .ref 215, .int (v 0), .int (v 1)])) := fun _ => rfl
set_option maxRecDepth 100000 in
theorem w63 : ∀ v, (WS v)[63]? = some (.inr (2, [.ref 64, .ref 65])) := fun _ => rfl
set_option maxRecDepth 100000 in
theorem w64 : ∀ v, (WS v)[64]? = some (.inl (0, 8, .inr (.inl fun _ => 0))) := fun _ => rfl
set_option maxRecDepth 100000 in
theorem w65 : ∀ v, (WS v)[65]? = some (.inl (0, 80, .inr (.inl fun _ => 0))) := fun _ => rfl
set_option maxRecDepth 100000 in
theorem w66 : ∀ v, (WS v)[66]? = some (.inr (3, [.ref 67, .ref 70, .ref 72, .ref 74, .ref 75, .ref 76])) := fun _ => rfl
set_option maxRecDepth 100000 in
theorem w67 : ∀ v, (WS v)[67]? = some (.inr (2, [.ref 68, .ref 69])) := fun _ => rfl
set_option maxRecDepth 100000 in
theorem w68 : ∀ v, (WS v)[68]? = some (.inl (0, 8, .inr (.inl fun _ => 0))) := fun _ => rfl
set_option maxRecDepth 100000 in
theorem w69 : ∀ v, (WS v)[69]? = some (.inl (0, 80, .inr (.inl fun _ => 0))) := fun _ => rfl
set_option maxRecDepth 100000 in
theorem w70 : ∀ v, (WS v)[70]? = some (.inr (4, [.ref 71, .int (v 2)])) := fun _ => rfl
set_option maxRecDepth 100000 in
theorem w71 : ∀ v, (WS v)[71]? = some (.inl (1, 400, .inl fun _ => 0)) := fun _ => rfl
set_option maxRecDepth 100000 in
theorem w72 : ∀ v, (WS v)[72]? = some (.inr (4, [.ref 73, .int (v 3)])) := fun _ => rfl
set_option maxRecDepth 100000 in
theorem w73 : ∀ v, (WS v)[73]? = some (.inl (1, 200, .inl fun _ => 0)) := fun _ => rfl
set_option maxRecDepth 100000 in
theorem w74 : ∀ v, (WS v)[74]? = some (.inl (1, 64, .inl fun _ => 0)) := fun _ => rfl
set_option maxRecDepth 100000 in
theorem w75 : ∀ v, (WS v)[75]? = some (.inl (1, 64, .inl fun _ => 0)) := fun _ => rfl
set_option maxRecDepth 100000 in
theorem w76 : ∀ v, (WS v)[76]? = some (.inl (1, 64, .inl fun _ => 0)) := fun _ => rfl
set_option maxRecDepth 100000 in
theorem w77 : ∀ v, (WS v)[77]? = some (.inr (5, [.ref 78, .ref 86, .ref 87, .ref 92, .ref 94, .ref 95, .ref 96, .ref 97, .ref 98, .ref 99, .ref 100, .ref 101, .ref 102])) := fun _ => rfl
set_option maxRecDepth 100000 in
theorem w78 : ∀ v, (WS v)[78]? = some (.inr (6, [.ref 79, .ref 80, .ref 81, .ref 82, .ref 83, .ref 84, .ref 85])) := fun _ => rfl
set_option maxRecDepth 100000 in
theorem w79 : ∀ v, (WS v)[79]? = some (.inl (0, 10, .inr (.inl fun _ => 0))) := fun _ => rfl
set_option maxRecDepth 100000 in
theorem w80 : ∀ v, (WS v)[80]? = some (.inl (0, 10, .inr (.inl fun _ => 0))) := fun _ => rfl
set_option maxRecDepth 100000 in
theorem w81 : ∀ v, (WS v)[81]? = some (.inl (0, 10, .inr (.inl fun _ => 0))) := fun _ => rfl
set_option maxRecDepth 100000 in
theorem w82 : ∀ v, (WS v)[82]? = some (.inl (0, 10, .inr (.inl fun _ => 0))) := fun _ => rfl
set_option maxRecDepth 100000 in
theorem w83 : ∀ v, (WS v)[83]? = some (.inl (0, 10, .inr (.inl fun _ => 0))) := fun _ => rfl
set_option maxRecDepth 100000 in
theorem w84 : ∀ v, (WS v)[84]? = some (.inl (0, 10, .inr (.inl fun _ => 0))) := fun _ => rfl
set_option maxRecDepth 100000 in
theorem w85 : ∀ v, (WS v)[85]? = some (.inl (0, 10, .inr (.inl fun _ => 0))) := fun _ => rfl
set_option maxRecDepth 100000 in
theorem w86 : ∀ v, (WS v)[86]? = some (.inl (4, 16, .inr (.inr (.inr (.inr fun j => [some 103, some 108, some 113, some 118, some 123, some 128, some 133, some 138, some 143, some 148, some 153, some 158, some 163, some 168, some 173, some 178].getD j none))))) := fun _ => rfl
set_option maxRecDepth 100000 in
theorem w87 : ∀ v, (WS v)[87]? = some (.inr (7, [.ref 88, .ref 89, .ref 90, .ref 91])) := fun _ => rfl
set_option maxRecDepth 100000 in
theorem w88 : ∀ v, (WS v)[88]? = some (.inl (0, 10, .inr (.inl fun _ => 0))) := fun _ => rfl
set_option maxRecDepth 100000 in
theorem w89 : ∀ v, (WS v)[89]? = some (.inl (0, 10, .inr (.inl fun _ => 0))) := fun _ => rfl
set_option maxRecDepth 100000 in
theorem w90 : ∀ v, (WS v)[90]? = some (.inl (0, 10, .inr (.inl fun _ => 0))) := fun _ => rfl
set_option maxRecDepth 100000 in
theorem w91 : ∀ v, (WS v)[91]? = some (.inl (0, 10, .inr (.inl fun _ => 0))) := fun _ => rfl
set_option maxRecDepth 100000 in
theorem w92 : ∀ v, (WS v)[92]? = some (.inr (4, [.ref 93, .int (v 4)])) := fun _ => rfl
set_option maxRecDepth 100000 in
theorem w93 : ∀ v, (WS v)[93]? = some (.inl (1, 32, .inl fun _ => 0)) := fun _ => rfl
set_option maxRecDepth 100000 in
theorem w94 : ∀ v, (WS v)[94]? = some (.inl (0, 10, .inr (.inl fun _ => 0))) := fun _ => rfl
set_option maxRecDepth 100000 in
theorem w95 : ∀ v, (WS v)[95]? = some (.inl (0, 10, .inr (.inl fun _ => 0))) := fun _ => rfl
set_option maxRecDepth 100000 in
theorem w96 : ∀ v, (WS v)[96]? = some (.inl (0, 10, .inr (.inl fun _ => 0))) := fun _ => rfl
set_option maxRecDepth 100000 in
theorem w97 : ∀ v, (WS v)[97]? = some (.inl (0, 10, .inr (.inl fun _ => 0))) := fun _ => rfl
set_option maxRecDepth 100000 in
theorem w98 : ∀ v, (WS v)[98]? = some (.inl (0, 10, .inr (.inl fun _ => 0))) := fun _ => rfl
set_option maxRecDepth 100000 in
theorem w99 : ∀ v, (WS v)[99]? = some (.inl (0, 10, .inr (.inl fun _ => 0))) := fun _ => rfl
set_option maxRecDepth 100000 in
theorem w100 : ∀ v, (WS v)[100]? = some (.inl (0, 10, .inr (.inl fun _ => 0))) := fun _ => rfl
set_option maxRecDepth 100000 in
theorem w101 : ∀ v, (WS v)[101]? = some (.inl (0, 10, .inr (.inl fun _ => 0))) := fun _ => rfl
set_option maxRecDepth 100000 in
theorem w102 : ∀ v, (WS v)[102]? = some (.inl (0, 10, .inr (.inl fun _ => 0))) := fun _ => rfl
set_option maxRecDepth 100000 in
theorem w103 : ∀ v, (WS v)[103]? = some (.inr (7, [.ref 104, .ref 105, .ref 106, .ref 107])) := fun _ => rfl
set_option maxRecDepth 100000 in
theorem w104 : ∀ v, (WS v)[104]? = some (.inl (0, 10, .inr (.inl fun _ => 0))) := fun _ => rfl
set_option maxRecDepth 100000 in
theorem w105 : ∀ v, (WS v)[105]? = some (.inl (0, 10, .inr (.inl fun _ => 0))) := fun _ => rfl
set_option maxRecDepth 100000 in
theorem w106 : ∀ v, (WS v)[106]? = some (.inl (0, 10, .inr (.inl fun _ => 0))) := fun _ => rfl
set_option maxRecDepth 100000 in
theorem w107 : ∀ v, (WS v)[107]? = some (.inl (0, 10, .inr (.inl fun _ => 0))) := fun _ => rfl
set_option maxRecDepth 100000 in
theorem w108 : ∀ v, (WS v)[108]? = some (.inr (7, [.ref 109, .ref 110, .ref 111, .ref 112])) := fun _ => rfl
set_option maxRecDepth 100000 in
theorem w109 : ∀ v, (WS v)[109]? = some (.inl (0, 10, .inr (.inl fun _ => 0))) := fun _ => rfl
set_option maxRecDepth 100000 in
theorem w110 : ∀ v, (WS v)[110]? = some (.inl (0, 10, .inr (.inl fun _ => 0))) := fun _ => rfl
set_option maxRecDepth 100000 in
theorem w111 : ∀ v, (WS v)[111]? = some (.inl (0, 10, .inr (.inl fun _ => 0))) := fun _ => rfl
set_option maxRecDepth 100000 in
theorem w112 : ∀ v, (WS v)[112]? = some (.inl (0, 10, .inr (.inl fun _ => 0))) := fun _ => rfl
set_option maxRecDepth 100000 in
theorem w113 : ∀ v, (WS v)[113]? = some (.inr (7, [.ref 114, .ref 115, .ref 116, .ref 117])) := fun _ => rfl
set_option maxRecDepth 100000 in
theorem w114 : ∀ v, (WS v)[114]? = some (.inl (0, 10, .inr (.inl fun _ => 0))) := fun _ => rfl
set_option maxRecDepth 100000 in
theorem w115 : ∀ v, (WS v)[115]? = some (.inl (0, 10, .inr (.inl fun _ => 0))) := fun _ => rfl
set_option maxRecDepth 100000 in
theorem w116 : ∀ v, (WS v)[116]? = some (.inl (0, 10, .inr (.inl fun _ => 0))) := fun _ => rfl
set_option maxRecDepth 100000 in
theorem w117 : ∀ v, (WS v)[117]? = some (.inl (0, 10, .inr (.inl fun _ => 0))) := fun _ => rfl
set_option maxRecDepth 100000 in
theorem w118 : ∀ v, (WS v)[118]? = some (.inr (7, [.ref 119, .ref 120, .ref 121, .ref 122])) := fun _ => rfl
set_option maxRecDepth 100000 in
theorem w119 : ∀ v, (WS v)[119]? = some (.inl (0, 10, .inr (.inl fun _ => 0))) := fun _ => rfl
set_option maxRecDepth 100000 in
theorem w120 : ∀ v, (WS v)[120]? = some (.inl (0, 10, .inr (.inl fun _ => 0))) := fun _ => rfl
set_option maxRecDepth 100000 in
theorem w121 : ∀ v, (WS v)[121]? = some (.inl (0, 10, .inr (.inl fun _ => 0))) := fun _ => rfl
set_option maxRecDepth 100000 in
theorem w122 : ∀ v, (WS v)[122]? = some (.inl (0, 10, .inr (.inl fun _ => 0))) := fun _ => rfl
set_option maxRecDepth 100000 in
theorem w123 : ∀ v, (WS v)[123]? = some (.inr (7, [.ref 124, .ref 125, .ref 126, .ref 127])) := fun _ => rfl
set_option maxRecDepth 100000 in
theorem w124 : ∀ v, (WS v)[124]? = some (.inl (0, 10, .inr (.inl fun _ => 0))) := fun _ => rfl
set_option maxRecDepth 100000 in
theorem w125 : ∀ v, (WS v)[125]? = some (.inl (0, 10, .inr (.inl fun _ => 0))) := fun _ => rfl
set_option maxRecDepth 100000 in
theorem w126 : ∀ v, (WS v)[126]? = some (.inl (0, 10, .inr (.inl fun _ => 0))) := fun _ => rfl
set_option maxRecDepth 100000 in
theorem w127 : ∀ v, (WS v)[127]? = some (.inl (0, 10, .inr (.inl fun _ => 0))) := fun _ => rfl
set_option maxRecDepth 100000 in
theorem w128 : ∀ v, (WS v)[128]? = some (.inr (7, [.ref 129, .ref 130, .ref 131, .ref 132])) := fun _ => rfl
set_option maxRecDepth 100000 in
theorem w129 : ∀ v, (WS v)[129]? = some (.inl (0, 10, .inr (.inl fun _ => 0))) := fun _ => rfl
set_option maxRecDepth 100000 in
theorem w130 : ∀ v, (WS v)[130]? = some (.inl (0, 10, .inr (.inl fun _ => 0))) := fun _ => rfl
set_option maxRecDepth 100000 in
theorem w131 : ∀ v, (WS v)[131]? = some (.inl (0, 10, .inr (.inl fun _ => 0))) := fun _ => rfl
set_option maxRecDepth 100000 in
theorem w132 : ∀ v, (WS v)[132]? = some (.inl (0, 10, .inr (.inl fun _ => 0))) := fun _ => rfl
set_option maxRecDepth 100000 in
theorem w133 : ∀ v, (WS v)[133]? = some (.inr (7, [.ref 134, .ref 135, .ref 136, .ref 137])) := fun _ => rfl
set_option maxRecDepth 100000 in
theorem w134 : ∀ v, (WS v)[134]? = some (.inl (0, 10, .inr (.inl fun _ => 0))) := fun _ => rfl
set_option maxRecDepth 100000 in
theorem w135 : ∀ v, (WS v)[135]? = some (.inl (0, 10, .inr (.inl fun _ => 0))) := fun _ => rfl
set_option maxRecDepth 100000 in
theorem w136 : ∀ v, (WS v)[136]? = some (.inl (0, 10, .inr (.inl fun _ => 0))) := fun _ => rfl
set_option maxRecDepth 100000 in
theorem w137 : ∀ v, (WS v)[137]? = some (.inl (0, 10, .inr (.inl fun _ => 0))) := fun _ => rfl
set_option maxRecDepth 100000 in
theorem w138 : ∀ v, (WS v)[138]? = some (.inr (7, [.ref 139, .ref 140, .ref 141, .ref 142])) := fun _ => rfl
set_option maxRecDepth 100000 in
theorem w139 : ∀ v, (WS v)[139]? = some (.inl (0, 10, .inr (.inl fun _ => 0))) := fun _ => rfl
set_option maxRecDepth 100000 in
theorem w140 : ∀ v, (WS v)[140]? = some (.inl (0, 10, .inr (.inl fun _ => 0))) := fun _ => rfl
set_option maxRecDepth 100000 in
theorem w141 : ∀ v, (WS v)[141]? = some (.inl (0, 10, .inr (.inl fun _ => 0))) := fun _ => rfl
set_option maxRecDepth 100000 in
theorem w142 : ∀ v, (WS v)[142]? = some (.inl (0, 10, .inr (.inl fun _ => 0))) := fun _ => rfl
set_option maxRecDepth 100000 in
theorem w143 : ∀ v, (WS v)[143]? = some (.inr (7, [.ref 144, .ref 145, .ref 146, .ref 147])) := fun _ => rfl
set_option maxRecDepth 100000 in
theorem w144 : ∀ v, (WS v)[144]? = some (.inl (0, 10, .inr (.inl fun _ => 0))) := fun _ => rfl
set_option maxRecDepth 100000 in
theorem w145 : ∀ v, (WS v)[145]? = some (.inl (0, 10, .inr (.inl fun _ => 0))) := fun _ => rfl
set_option maxRecDepth 100000 in
theorem w146 : ∀ v, (WS v)[146]? = some (.inl (0, 10, .inr (.inl fun _ => 0))) := fun _ => rfl
set_option maxRecDepth 100000 in
theorem w147 : ∀ v, (WS v)[147]? = some (.inl (0, 10, .inr (.inl fun _ => 0))) := fun _ => rfl
set_option maxRecDepth 100000 in
theorem w148 : ∀ v, (WS v)[148]? = some (.inr (7, [.ref 149, .ref 150, .ref 151, .ref 152])) := fun _ => rfl
set_option maxRecDepth 100000 in
theorem w149 : ∀ v, (WS v)[149]? = some (.inl (0, 10, .inr (.inl fun _ => 0))) := fun _ => rfl
set_option maxRecDepth 100000 in
theorem w150 : ∀ v, (WS v)[150]? = some (.inl (0, 10, .inr (.inl fun _ => 0))) := fun _ => rfl
set_option maxRecDepth 100000 in
theorem w151 : ∀ v, (WS v)[151]? = some (.inl (0, 10, .inr (.inl fun _ => 0))) := fun _ => rfl
set_option maxRecDepth 100000 in
theorem w152 : ∀ v, (WS v)[152]? = some (.inl (0, 10, .inr (.inl fun _ => 0))) := fun _ => rfl
set_option maxRecDepth 100000 in
theorem w153 : ∀ v, (WS v)[153]? = some (.inr (7, [.ref 154, .ref 155, .ref 156, .ref 157])) := fun _ => rfl
set_option maxRecDepth 100000 in
theorem w154 : ∀ v, (WS v)[154]? = some (.inl (0, 10, .inr (.inl fun _ => 0))) := fun _ => rfl
set_option maxRecDepth 100000 in
theorem w155 : ∀ v, (WS v)[155]? = some (.inl (0, 10, .inr (.inl fun _ => 0))) := fun _ => rfl
set_option maxRecDepth 100000 in
theorem w156 : ∀ v, (WS v)[156]? = some (.inl (0, 10, .inr (.inl fun _ => 0))) := fun _ => rfl
set_option maxRecDepth 100000 in
theorem w157 : ∀ v, (WS v)[157]? = some (.inl (0, 10, .inr (.inl fun _ => 0))) := fun _ => rfl
set_option maxRecDepth 100000 in
theorem w158 : ∀ v, (WS v)[158]? = some (.inr (7, [.ref 159, .ref 160, .ref 161, .ref 162])) := fun _ => rfl
set_option maxRecDepth 100000 in
theorem w159 : ∀ v, (WS v)[159]? = some (.inl (0, 10, .inr (.inl fun _ => 0))) := fun _ => rfl
set_option maxRecDepth 100000 in
theorem w160 : ∀ v, (WS v)[160]? = some (.inl (0, 10, .inr (.inl fun _ => 0))) := fun _ => rfl
set_option maxRecDepth 100000 in
theorem w161 : ∀ v, (WS v)[161]? = some (.inl (0, 10, .inr (.inl fun _ => 0))) := fun _ => rfl
set_option maxRecDepth 100000 in
theorem w162 : ∀ v, (WS v)[162]? = some (.inl (0, 10, .inr (.inl fun _ => 0))) := fun _ => rfl
set_option maxRecDepth 100000 in
theorem w163 : ∀ v, (WS v)[163]? = some (.inr (7, [.ref 164, .ref 165, .ref 166, .ref 167])) := fun _ => rfl
set_option maxRecDepth 100000 in
theorem w164 : ∀ v, (WS v)[164]? = some (.inl (0, 10, .inr (.inl fun _ => 0))) := fun _ => rfl
set_option maxRecDepth 100000 in
theorem w165 : ∀ v, (WS v)[165]? = some (.inl (0, 10, .inr (.inl fun _ => 0))) := fun _ => rfl
set_option maxRecDepth 100000 in
theorem w166 : ∀ v, (WS v)[166]? = some (.inl (0, 10, .inr (.inl fun _ => 0))) := fun _ => rfl
set_option maxRecDepth 100000 in
theorem w167 : ∀ v, (WS v)[167]? = some (.inl (0, 10, .inr (.inl fun _ => 0))) := fun _ => rfl
set_option maxRecDepth 100000 in
theorem w168 : ∀ v, (WS v)[168]? = some (.inr (7, [.ref 169, .ref 170, .ref 171, .ref 172])) := fun _ => rfl
set_option maxRecDepth 100000 in
theorem w169 : ∀ v, (WS v)[169]? = some (.inl (0, 10, .inr (.inl fun _ => 0))) := fun _ => rfl
set_option maxRecDepth 100000 in
theorem w170 : ∀ v, (WS v)[170]? = some (.inl (0, 10, .inr (.inl fun _ => 0))) := fun _ => rfl
set_option maxRecDepth 100000 in
theorem w171 : ∀ v, (WS v)[171]? = some (.inl (0, 10, .inr (.inl fun _ => 0))) := fun _ => rfl
set_option maxRecDepth 100000 in
theorem w172 : ∀ v, (WS v)[172]? = some (.inl (0, 10, .inr (.inl fun _ => 0))) := fun _ => rfl
set_option maxRecDepth 100000 in
theorem w173 : ∀ v, (WS v)[173]? = some (.inr (7, [.ref 174, .ref 175, .ref 176, .ref 177])) := fun _ => rfl
set_option maxRecDepth 100000 in
theorem w174 : ∀ v, (WS v)[174]? = some (.inl (0, 10, .inr (.inl fun _ => 0))) := fun _ => rfl
set_option maxRecDepth 100000 in
theorem w175 : ∀ v, (WS v)[175]? = some (.inl (0, 10, .inr (.inl fun _ => 0))) := fun _ => rfl
set_option maxRecDepth 100000 in
theorem w176 : ∀ v, (WS v)[176]? = some (.inl (0, 10, .inr (.inl fun _ => 0))) := fun _ => rfl
set_option maxRecDepth 100000 in
theorem w177 : ∀ v, (WS v)[177]? = some (.inl (0, 10, .inr (.inl fun _ => 0))) := fun _ => rfl
set_option maxRecDepth 100000 in
theorem w178 : ∀ v, (WS v)[178]? = some (.inr (7, [.ref 179, .ref 180, .ref 181, .ref 182])) := fun _ => rfl
set_option maxRecDepth 100000 in
theorem w179 : ∀ v, (WS v)[179]? = some (.inl (0, 10, .inr (.inl fun _ => 0))) := fun _ => rfl
set_option maxRecDepth 100000 in
theorem w180 : ∀ v, (WS v)[180]? = some (.inl (0, 10, .inr (.inl fun _ => 0))) := fun _ => rfl
set_option maxRecDepth 100000 in
theorem w181 : ∀ v, (WS v)[181]? = some (.inl (0, 10, .inr (.inl fun _ => 0))) := fun _ => rfl
set_option maxRecDepth 100000 in
theorem w182 : ∀ v, (WS v)[182]? = some (.inl (0, 10, .inr (.inl fun _ => 0))) := fun _ => rfl
set_option maxRecDepth 100000 in
theorem w183 : ∀ v, (WS v)[183]? = some (.inr (8, [.ref 184, .ref 185, .ref 186, .ref 187])) := fun _ => rfl
set_option maxRecDepth 100000 in
theorem w184 : ∀ v, (WS v)[184]? = some (.inl (0, 20, .inr (.inl fun _ => 0))) := fun _ => rfl
set_option maxRecDepth 100000 in
theorem w185 : ∀ v, (WS v)[185]? = some (.inl (0, 20, .inr (.inl fun _ => 0))) := fun _ => rfl
set_option maxRecDepth 100000 in
theorem w186 : ∀ v, (WS v)[186]? = some (.inl (0, 20, .inr (.inl fun _ => 0))) := fun _ => rfl
set_option maxRecDepth 100000 in
theorem w187 : ∀ v, (WS v)[187]? = some (.inl (0, 20, .inr (.inl fun _ => 0))) := fun _ => rfl
set_option maxRecDepth 100000 in
theorem w188 : ∀ v, (WS v)[188]? = some (.inr (7, [.ref 189, .ref 190, .ref 191, .ref 192])) := fun _ => rfl
set_option maxRecDepth 100000 in
theorem w189 : ∀ v, (WS v)[189]? = some (.inl (0, 10, .inr (.inl fun _ => 0))) := fun _ => rfl
set_option maxRecDepth 100000 in
theorem w190 : ∀ v, (WS v)[190]? = some (.inl (0, 10, .inr (.inl fun _ => 0))) := fun _ => rfl
set_option maxRecDepth 100000 in
theorem w191 : ∀ v, (WS v)[191]? = some (.inl (0, 10, .inr (.inl fun _ => 0))) := fun _ => rfl
set_option maxRecDepth 100000 in
theorem w192 : ∀ v, (WS v)[192]? = some (.inl (0, 10, .inr (.inl fun _ => 0))) := fun _ => rfl
set_option maxRecDepth 100000 in
theorem w193 : ∀ v, (WS v)[193]? = some (.inr (7, [.ref 194, .ref 195, .ref 196, .ref 197])) := fun _ => rfl
set_option maxRecDepth 100000 in
theorem w194 : ∀ v, (WS v)[194]? = some (.inl (0, 10, .inr (.inl fun _ => 0))) := fun _ => rfl
set_option maxRecDepth 100000 in
theorem w195 : ∀ v, (WS v)[195]? = some (.inl (0, 10, .inr (.inl fun _ => 0))) := fun _ => rfl
set_option maxRecDepth 100000 in
theorem w196 : ∀ v, (WS v)[196]? = some (.inl (0, 10, .inr (.inl fun _ => 0))) := fun _ => rfl
set_option maxRecDepth 100000 in
theorem w197 : ∀ v, (WS v)[197]? = some (.inl (0, 10, .inr (.inl fun _ => 0))) := fun _ => rfl
set_option maxRecDepth 100000 in
theorem w198 : ∀ v, (WS v)[198]? = some (.inl (1, 32, .inl fun _ => 0)) := fun _ => rfl
set_option maxRecDepth 100000 in
theorem w199 : ∀ v, (WS v)[199]? = some (.inl (1, 64, .inl fun _ => 0)) := fun _ => rfl
set_option maxRecDepth 100000 in
theorem w200 : ∀ v, (WS v)[200]? = some (.inl (1, 64, .inl fun _ => 0)) := fun _ => rfl
set_option maxRecDepth 100000 in
theorem w201 : ∀ v, (WS v)[201]? = some (.inl (1, 64, .inl fun _ => 0)) := fun _ => rfl
set_option maxRecDepth 100000 in
theorem w202 : ∀ v, (WS v)[202]? = some (.inl (1, 32, .inl fun _ => 0)) := fun _ => rfl
set_option maxRecDepth 100000 in
theorem w203 : ∀ v, (WS v)[203]? = some (.inr (4, [.ref 204, .int (v 5)])) := fun _ => rfl
set_option maxRecDepth 100000 in
theorem w204 : ∀ v, (WS v)[204]? = some (.inl (1, 32, .inl fun _ => 0)) := fun _ => rfl
set_option maxRecDepth 100000 in
theorem w205 : ∀ v, (WS v)[205]? = some (.inl (1, 64, .inl fun _ => 0)) := fun _ => rfl
set_option maxRecDepth 100000 in
theorem w206 : ∀ v, (WS v)[206]? = some (.inl (1, 64, .inl fun _ => 0)) := fun _ => rfl
set_option maxRecDepth 100000 in
theorem w207 : ∀ v, (WS v)[207]? = some (.inr (7, [.ref 208, .ref 209, .ref 210, .ref 211])) := fun _ => rfl
set_option maxRecDepth 100000 in
theorem w208 : ∀ v, (WS v)[208]? = some (.inl (0, 10, .inr (.inl fun _ => 0))) := fun _ => rfl
set_option maxRecDepth 100000 in
theorem w209 : ∀ v, (WS v)[209]? = some (.inl (0, 10, .inr (.inl fun _ => 0))) := fun _ => rfl
set_option maxRecDepth 100000 in
theorem w210 : ∀ v, (WS v)[210]? = some (.inl (0, 10, .inr (.inl fun _ => 0))) := fun _ => rfl
set_option maxRecDepth 100000 in
theorem w211 : ∀ v, (WS v)[211]? = some (.inl (0, 10, .inr (.inl fun _ => 0))) := fun _ => rfl
set_option maxRecDepth 100000 in
theorem w212 : ∀ v, (WS v)[212]? = some (.inl (1, 128, .inl fun _ => 0)) := fun _ => rfl
set_option maxRecDepth 100000 in
theorem w213 : ∀ v, (WS v)[213]? = some (.inr (4, [.ref 214, .int (v 6)])) := fun _ => rfl
set_option maxRecDepth 100000 in
theorem w214 : ∀ v, (WS v)[214]? = some (.inl (1, 400, .inl fun _ => 0)) := fun _ => rfl
set_option maxRecDepth 100000 in
theorem w215 : ∀ v, (WS v)[215]? = some (.inr (4, [.ref 216, .int (v 7)])) := fun _ => rfl
set_option maxRecDepth 100000 in
theorem w216 : ∀ v, (WS v)[216]? = some (.inl (1, 150, .inl fun _ => 0)) := fun _ => rfl
set_option maxRecDepth 100000 in
theorem w217 : ∀ v, (WS v)[217]? = some (.inr (9, [.ref 218, .ref 219, .ref 220, .ref 221, .ref 223, .ref 225, .ref 227, .ref 228, .ref 229, .ref 230])) := fun _ => rfl
set_option maxRecDepth 100000 in
theorem w218 : ∀ v, (WS v)[218]? = some (.inl (1, 64, .inl fun _ => 0)) := fun _ => rfl
set_option maxRecDepth 100000 in
theorem w219 : ∀ v, (WS v)[219]? = some (.inl (1, 64, .inl fun _ => 0)) := fun _ => rfl
set_option maxRecDepth 100000 in
theorem w220 : ∀ v, (WS v)[220]? = some (.inl (1, 64, .inl fun _ => 0)) := fun _ => rfl
set_option maxRecDepth 100000 in
theorem w221 : ∀ v, (WS v)[221]? = some (.inr (4, [.ref 222, .int (v 8)])) := fun _ => rfl
set_option maxRecDepth 100000 in
theorem w222 : ∀ v, (WS v)[222]? = some (.inl (1, 500, .inl fun _ => 0)) := fun _ => rfl
set_option maxRecDepth 100000 in
theorem w223 : ∀ v, (WS v)[223]? = some (.inr (4, [.ref 224, .int (v 9)])) := fun _ => rfl
set_option maxRecDepth 100000 in
theorem w224 : ∀ v, (WS v)[224]? = some (.inl (1, 96, .inl fun _ => 0)) := fun _ => rfl
set_option maxRecDepth 100000 in
theorem w225 : ∀ v, (WS v)[225]? = some (.inr (4, [.ref 226, .int (v 10)])) := fun _ => rfl
set_option maxRecDepth 100000 in
theorem w226 : ∀ v, (WS v)[226]? = some (.inl (1, 64, .inl fun _ => 0)) := fun _ => rfl
set_option maxRecDepth 100000 in
theorem w227 : ∀ v, (WS v)[227]? = some (.inl (1, 64, .inl fun _ => 0)) := fun _ => rfl
set_option maxRecDepth 100000 in
theorem w228 : ∀ v, (WS v)[228]? = some (.inl (1, 64, .inl fun _ => 0)) := fun _ => rfl
set_option maxRecDepth 100000 in
theorem w229 : ∀ v, (WS v)[229]? = some (.inl (1, 64, .inl fun _ => 0)) := fun _ => rfl
set_option maxRecDepth 100000 in
theorem w230 : ∀ v, (WS v)[230]? = some (.inl (1, 64, .inl fun _ => 0)) := fun _ => rfl
set_option maxRecDepth 100000 in
theorem w231 : ∀ v, (WS v)[231]? = some (.inr (10, [.ref 232, .ref 233, .ref 235, .ref 237, .ref 239, .ref 241, .ref 242, .ref 243, .ref 245, .ref 246, .ref 247])) := fun _ => rfl
set_option maxRecDepth 100000 in
theorem w232 : ∀ v, (WS v)[232]? = some (.inl (5, 8, .inr (.inr (.inr (.inr fun j => [some 248, some 250, some 252, some 254, some 256, some 258, some 260, some 262].getD j none))))) := fun _ => rfl
set_option maxRecDepth 100000 in
theorem w233 : ∀ v, (WS v)[233]? = some (.inr (4, [.ref 234, .int (v 11)])) := fun _ => rfl
set_option maxRecDepth 100000 in
theorem w234 : ∀ v, (WS v)[234]? = some (.inl (1, 192, .inl fun _ => 0)) := fun _ => rfl
set_option maxRecDepth 100000 in
theorem w235 : ∀ v, (WS v)[235]? = some (.inr (4, [.ref 236, .int (v 12)])) := fun _ => rfl
set_option maxRecDepth 100000 in
theorem w236 : ∀ v, (WS v)[236]? = some (.inl (1, 128, .inl fun _ => 0)) := fun _ => rfl
set_option maxRecDepth 100000 in
theorem w237 : ∀ v, (WS v)[237]? = some (.inr (4, [.ref 238, .int (v 13)])) := fun _ => rfl
set_option maxRecDepth 100000 in
theorem w238 : ∀ v, (WS v)[238]? = some (.inl (1, 32, .inl fun _ => 0)) := fun _ => rfl
set_option maxRecDepth 100000 in
theorem w239 : ∀ v, (WS v)[239]? = some (.inr (4, [.ref 240, .int (v 14)])) := fun _ => rfl
set_option maxRecDepth 100000 in
theorem w240 : ∀ v, (WS v)[240]? = some (.inl (1, 20, .inl fun _ => 0)) := fun _ => rfl
set_option maxRecDepth 100000 in
theorem w241 : ∀ v, (WS v)[241]? = some (.inl (1, 64, .inl fun _ => 0)) := fun _ => rfl
set_option maxRecDepth 100000 in
theorem w242 : ∀ v, (WS v)[242]? = some (.inl (1, 32, .inl fun _ => 0)) := fun _ => rfl
set_option maxRecDepth 100000 in
theorem w243 : ∀ v, (WS v)[243]? = some (.inr (4, [.ref 244, .int (v 15)])) := fun _ => rfl
set_option maxRecDepth 100000 in
theorem w244 : ∀ v, (WS v)[244]? = some (.inl (1, 32, .inl fun _ => 0)) := fun _ => rfl
set_option maxRecDepth 100000 in
theorem w245 : ∀ v, (WS v)[245]? = some (.inl (1, 32, .inl fun _ => 0)) := fun _ => rfl
set_option maxRecDepth 100000 in
theorem w246 : ∀ v, (WS v)[246]? = some (.inl (1, 32, .inl fun _ => 0)) := fun _ => rfl
set_option maxRecDepth 100000 in
theorem w247 : ∀ v, (WS v)[247]? = some (.inl (1, 64, .inl fun _ => 0)) := fun _ => rfl
set_option maxRecDepth 100000 in
theorem w248 : ∀ v, (WS v)[248]? = some (.inr (4, [.ref 249, .int (v 16)])) := fun _ => rfl
set_option maxRecDepth 100000 in
theorem w249 : ∀ v, (WS v)[249]? = some (.inl (1, 192, .inl fun _ => 0)) := fun _ => rfl
set_option maxRecDepth 100000 in
theorem w250 : ∀ v, (WS v)[250]? = some (.inr (4, [.ref 251, .int (v 17)])) := fun _ => rfl
set_option maxRecDepth 100000 in
theorem w251 : ∀ v, (WS v)[251]? = some (.inl (1, 192, .inl fun _ => 0)) := fun _ => rfl
set_option maxRecDepth 100000 in
theorem w252 : ∀ v, (WS v)[252]? = some (.inr (4, [.ref 253, .int (v 18)])) := fun _ => rfl
set_option maxRecDepth 100000 in
theorem w253 : ∀ v, (WS v)[253]? = some (.inl (1, 192, .inl fun _ => 0)) := fun _ => rfl
set_option maxRecDepth 100000 in
theorem w254 : ∀ v, (WS v)[254]? = some (.inr (4, [.ref 255, .int (v 19)])) := fun _ => rfl
set_option maxRecDepth 100000 in
theorem w255 : ∀ v, (WS v)[255]? = some (.inl (1, 192, .inl fun _ => 0)) := fun _ => rfl
set_option maxRecDepth 100000 in
theorem w256 : ∀ v, (WS v)[256]? = some (.inr (4, [.ref 257, .int (v 20)])) := fun _ => rfl
set_option maxRecDepth 100000 in
theorem w257 : ∀ v, (WS v)[257]? = some (.inl (1, 192, .inl fun _ => 0)) := fun _ => rfl
set_option maxRecDepth 100000 in
theorem w258 : ∀ v, (WS v)[258]? = some (.inr (4, [.ref 259, .int (v 21)])) := fun _ => rfl
set_option maxRecDepth 100000 in
theorem w259 : ∀ v, (WS v)[259]? = some (.inl (1, 192, .inl fun _ => 0)) := fun _ => rfl
set_option maxRecDepth 100000 in
theorem w260 : ∀ v, (WS v)[260]? = some (.inr (4, [.ref 261, .int (v 22)])) := fun _ => rfl
set_option maxRecDepth 100000 in
theorem w261 : ∀ v, (WS v)[261]? = some (.inl (1, 192, .inl fun _ => 0)) := fun _ => rfl
set_option maxRecDepth 100000 in
theorem w262 : ∀ v, (WS v)[262]? = some (.inr (4, [.ref 263, .int (v 23)])) := fun _ => rfl
set_option maxRecDepth 100000 in
theorem w263 : ∀ v, (WS v)[263]? = some (.inl (1, 192, .inl fun _ => 0)) := fun _ => rfl
set_option maxRecDepth 100000 in
theorem w264 : ∀ v, (WS v)[264]? = some (.inl (6, 4, .inr (.inr (.inr (.inr fun j => [some 265, some 291, some 317, some 343].getD j none))))) := fun _ => rfl
set_option maxRecDepth 100000 in
theorem w265 : ∀ v, (WS v)[265]? = some (.inr (11, [.ref 266, .ref 267, .ref 268, .ref 269, .int (v 24), .ref 270, .ref 271, .ref 273, .ref 275, .ref 277, .ref 278])) := fun _ => rfl
set_option maxRecDepth 100000 in
theorem w266 : ∀ v, (WS v)[266]? = some (.inl (5, 3, .inr (.inr (.inr (.inr fun j => [some 279, some 281, some 283].getD j none))))) := fun _ => rfl
set_option maxRecDepth 100000 in
theorem w267 : ∀ v, (WS v)[267]? = some (.inl (5, 3, .inr (.inr (.inr (.inr fun j => [some 285, some 287, some 289].getD j none))))) := fun _ => rfl
set_option maxRecDepth 100000 in
theorem w268 : ∀ v, (WS v)[268]? = some (.inl (1, 64, .inl fun _ => 0)) := fun _ => rfl
set_option maxRecDepth 100000 in
theorem w269 : ∀ v, (WS v)[269]? = some (.inl (1, 64, .inl fun _ => 0)) := fun _ => rfl
set_option maxRecDepth 100000 in
theorem w270 : ∀ v, (WS v)[270]? = some (.inl (3, 3, .inl fun q => [v 76, v 77, v 78].getD q 0)) := fun _ => rfl
set_option maxRecDepth 100000 in
theorem w271 : ∀ v, (WS v)[271]? = some (.inr (4, [.ref 272, .int (v 25)])) := fun _ => rfl
set_option maxRecDepth 100000 in
theorem w272 : ∀ v, (WS v)[272]? = some (.inl (1, 200, .inl fun _ => 0)) := fun _ => rfl
set_option maxRecDepth 100000 in
theorem w273 : ∀ v, (WS v)[273]? = some (.inr (4, [.ref 274, .int (v 26)])) := fun _ => rfl
set_option maxRecDepth 100000 in
theorem w274 : ∀ v, (WS v)[274]? = some (.inl (1, 96, .inl fun _ => 0)) := fun _ => rfl
set_option maxRecDepth 100000 in
theorem w275 : ∀ v, (WS v)[275]? = some (.inr (4, [.ref 276, .int (v 27)])) := fun _ => rfl
set_option maxRecDepth 100000 in
theorem w276 : ∀ v, (WS v)[276]? = some (.inl (1, 128, .inl fun _ => 0)) := fun _ => rfl
set_option maxRecDepth 100000 in
theorem w277 : ∀ v, (WS v)[277]? = some (.inl (1, 32, .inl fun _ => 0)) := fun _ => rfl
set_option maxRecDepth 100000 in
theorem w278 : ∀ v, (WS v)[278]? = some (.inl (1, 32, .inl fun _ => 0)) := fun _ => rfl
set_option maxRecDepth 100000 in
theorem w279 : ∀ v, (WS v)[279]? = some (.inr (4, [.ref 280, .int (v 28)])) := fun _ => rfl
set_option maxRecDepth 100000 in
theorem w280 : ∀ v, (WS v)[280]? = some (.inl (1, 96, .inl fun _ => 0)) := fun _ => rfl
set_option maxRecDepth 100000 in
theorem w281 : ∀ v, (WS v)[281]? = some (.inr (4, [.ref 282, .int (v 29)])) := fun _ => rfl
set_option maxRecDepth 100000 in
theorem w282 : ∀ v, (WS v)[282]? = some (.inl (1, 320, .inl fun _ => 0)) := fun _ => rfl
set_option maxRecDepth 100000 in
theorem w283 : ∀ v, (WS v)[283]? = some (.inr (4, [.ref 284, .int (v 30)])) := fun _ => rfl
set_option maxRecDepth 100000 in
theorem w284 : ∀ v, (WS v)[284]? = some (.inl (1, 64, .inl fun _ => 0)) := fun _ => rfl
set_option maxRecDepth 100000 in
theorem w285 : ∀ v, (WS v)[285]? = some (.inr (4, [.ref 286, .int (v 31)])) := fun _ => rfl
set_option maxRecDepth 100000 in
theorem w286 : ∀ v, (WS v)[286]? = some (.inl (1, 64, .inl fun _ => 0)) := fun _ => rfl
set_option maxRecDepth 100000 in
theorem w287 : ∀ v, (WS v)[287]? = some (.inr (4, [.ref 288, .int (v 32)])) := fun _ => rfl
set_option maxRecDepth 100000 in
theorem w288 : ∀ v, (WS v)[288]? = some (.inl (1, 64, .inl fun _ => 0)) := fun _ => rfl
set_option maxRecDepth 100000 in
theorem w289 : ∀ v, (WS v)[289]? = some (.inr (4, [.ref 290, .int (v 33)])) := fun _ => rfl
set_option maxRecDepth 100000 in
theorem w290 : ∀ v, (WS v)[290]? = some (.inl (1, 64, .inl fun _ => 0)) := fun _ => rfl
set_option maxRecDepth 100000 in
theorem w291 : ∀ v, (WS v)[291]? = some (.inr (11, [.ref 292, .ref 293, .ref 294, .ref 295, .int (v 34), .ref 296, .ref 297, .ref 299, .ref 301, .ref 303, .ref 304])) := fun _ => rfl
set_option maxRecDepth 100000 in
theorem w292 : ∀ v, (WS v)[292]? = some (.inl (5, 3, .inr (.inr (.inr (.inr fun j => [some 305, some 307, some 309].getD j none))))) := fun _ => rfl
set_option maxRecDepth 100000 in
theorem w293 : ∀ v, (WS v)[293]? = some (.inl (5, 3, .inr (.inr (.inr (.inr fun j => [some 311, some 313, some 315].getD j none))))) := fun _ => rfl
set_option maxRecDepth 100000 in
theorem w294 : ∀ v, (WS v)[294]? = some (.inl (1, 64, .inl fun _ => 0)) := fun _ => rfl
set_option maxRecDepth 100000 in
theorem w295 : ∀ v, (WS v)[295]? = some (.inl (1, 64, .inl fun _ => 0)) := fun _ => rfl
set_option maxRecDepth 100000 in
theorem w296 : ∀ v, (WS v)[296]? = some (.inl (3, 3, .inl fun q => [v 79, v 80, v 81].getD q 0)) := fun _ => rfl
set_option maxRecDepth 100000 in
theorem w297 : ∀ v, (WS v)[297]? = some (.inr (4, [.ref 298, .int (v 35)])) := fun _ => rfl
set_option maxRecDepth 100000 in
theorem w298 : ∀ v, (WS v)[298]? = some (.inl (1, 200, .inl fun _ => 0)) := fun _ => rfl
set_option maxRecDepth 100000 in
theorem w299 : ∀ v, (WS v)[299]? = some (.inr (4, [.ref 300, .int (v 36)])) := fun _ => rfl
set_option maxRecDepth 100000 in
theorem w300 : ∀ v, (WS v)[300]? = some (.inl (1, 96, .inl fun _ => 0)) := fun _ => rfl
set_option maxRecDepth 100000 in
theorem w301 : ∀ v, (WS v)[301]? = some (.inr (4, [.ref 302, .int (v 37)])) := fun _ => rfl
set_option maxRecDepth 100000 in
theorem w302 : ∀ v, (WS v)[302]? = some (.inl (1, 128, .inl fun _ => 0)) := fun _ => rfl
set_option maxRecDepth 100000 in
theorem w303 : ∀ v, (WS v)[303]? = some (.inl (1, 32, .inl fun _ => 0)) := fun _ => rfl
set_option maxRecDepth 100000 in
theorem w304 : ∀ v, (WS v)[304]? = some (.inl (1, 32, .inl fun _ => 0)) := fun _ => rfl
set_option maxRecDepth 100000 in
theorem w305 : ∀ v, (WS v)[305]? = some (.inr (4, [.ref 306, .int (v 38)])) := fun _ => rfl
set_option maxRecDepth 100000 in
theorem w306 : ∀ v, (WS v)[306]? = some (.inl (1, 96, .inl fun _ => 0)) := fun _ => rfl
set_option maxRecDepth 100000 in
theorem w307 : ∀ v, (WS v)[307]? = some (.inr (4, [.ref 308, .int (v 39)])) := fun _ => rfl
set_option maxRecDepth 100000 in
theorem w308 : ∀ v, (WS v)[308]? = some (.inl (1, 320, .inl fun _ => 0)) := fun _ => rfl
set_option maxRecDepth 100000 in
theorem w309 : ∀ v, (WS v)[309]? = some (.inr (4, [.ref 310, .int (v 40)])) := fun _ => rfl
set_option maxRecDepth 100000 in
theorem w310 : ∀ v, (WS v)[310]? = some (.inl (1, 64, .inl fun _ => 0)) := fun _ => rfl
set_option maxRecDepth 100000 in
theorem w311 : ∀ v, (WS v)[311]? = some (.inr (4, [.ref 312, .int (v 41)])) := fun _ => rfl
set_option maxRecDepth 100000 in
theorem w312 : ∀ v, (WS v)[312]? = some (.inl (1, 64, .inl fun _ => 0)) := fun _ => rfl
set_option maxRecDepth 100000 in
theorem w313 : ∀ v, (WS v)[313]? = some (.inr (4, [.ref 314, .int (v 42)])) := fun _ => rfl
set_option maxRecDepth 100000 in
theorem w314 : ∀ v, (WS v)[314]? = some (.inl (1, 64, .inl fun _ => 0)) := fun _ => rfl
set_option maxRecDepth 100000 in
theorem w315 : ∀ v, (WS v)[315]? = some (.inr (4, [.ref 316, .int (v 43)])) := fun _ => rfl
set_option maxRecDepth 100000 in
theorem w316 : ∀ v, (WS v)[316]? = some (.inl (1, 64, .inl fun _ => 0)) := fun _ => rfl
set_option maxRecDepth 100000 in
theorem w317 : ∀ v, (WS v)[317]? = some (.inr (11, [.ref 318, .ref 319, .ref 320, .ref 321, .int (v 44), .ref 322, .ref 323, .ref 325, .ref 327, .ref 329, .ref 330])) := fun _ => rfl
set_option maxRecDepth 100000 in
theorem w318 : ∀ v, (WS v)[318]? = some (.inl (5, 3, .inr (.inr (.inr (.inr fun j => [some 331, some 333, some 335].getD j none))))) := fun _ => rfl
set_option maxRecDepth 100000 in
theorem w319 : ∀ v, (WS v)[319]? = some (.inl (5, 3, .inr (.inr (.inr (.inr fun j => [some 337, some 339, some 341].getD j none))))) := fun _ => rfl
set_option maxRecDepth 100000 in
theorem w320 : ∀ v, (WS v)[320]? = some (.inl (1, 64, .inl fun _ => 0)) := fun _ => rfl
set_option maxRecDepth 100000 in
theorem w321 : ∀ v, (WS v)[321]? = some (.inl (1, 64, .inl fun _ => 0)) := fun _ => rfl
set_option maxRecDepth 100000 in
theorem w322 : ∀ v, (WS v)[322]? = some (.inl (3, 3, .inl fun q => [v 82, v 83, v 84].getD q 0)) := fun _ => rfl
set_option maxRecDepth 100000 in
theorem w323 : ∀ v, (WS v)[323]? = some (.inr (4, [.ref 324, .int (v 45)])) := fun _ => rfl
set_option maxRecDepth 100000 in
theorem w324 : ∀ v, (WS v)[324]? = some (.inl (1, 200, .inl fun _ => 0)) := fun _ => rfl
set_option maxRecDepth 100000 in
theorem w325 : ∀ v, (WS v)[325]? = some (.inr (4, [.ref 326, .int (v 46)])) := fun _ => rfl
set_option maxRecDepth 100000 in
theorem w326 : ∀ v, (WS v)[326]? = some (.inl (1, 96, .inl fun _ => 0)) := fun _ => rfl
set_option maxRecDepth 100000 in
theorem w327 : ∀ v, (WS v)[327]? = some (.inr (4, [.ref 328, .int (v 47)])) := fun _ => rfl
set_option maxRecDepth 100000 in
theorem w328 : ∀ v, (WS v)[328]? = some (.inl (1, 128, .inl fun _ => 0)) := fun _ => rfl
set_option maxRecDepth 100000 in
theorem w329 : ∀ v, (WS v)[329]? = some (.inl (1, 32, .inl fun _ => 0)) := fun _ => rfl
set_option maxRecDepth 100000 in
theorem w330 : ∀ v, (WS v)[330]? = some (.inl (1, 32, .inl fun _ => 0)) := fun _ => rfl
set_option maxRecDepth 100000 in
theorem w331 : ∀ v, (WS v)[331]? = some (.inr (4, [.ref 332, .int (v 48)])) := fun _ => rfl
set_option maxRecDepth 100000 in
theorem w332 : ∀ v, (WS v)[332]? = some (.inl (1, 96, .inl fun _ => 0)) := fun _ => rfl
set_option maxRecDepth 100000 in
theorem w333 : ∀ v, (WS v)[333]? = some (.inr (4, [.ref 334, .int (v 49)])) := fun _ => rfl
set_option maxRecDepth 100000 in
theorem w334 : ∀ v, (WS v)[334]? = some (.inl (1, 320, .inl fun _ => 0)) := fun _ => rfl
set_option maxRecDepth 100000 in
theorem w335 : ∀ v, (WS v)[335]? = some (.inr (4, [.ref 336, .int (v 50)])) := fun _ => rfl
set_option maxRecDepth 100000 in
theorem w336 : ∀ v, (WS v)[336]? = some (.inl (1, 64, .inl fun _ => 0)) := fun _ => rfl
set_option maxRecDepth 100000 in
theorem w337 : ∀ v, (WS v)[337]? = some (.inr (4, [.ref 338, .int (v 51)])) := fun _ => rfl
set_option maxRecDepth 100000 in
theorem w338 : ∀ v, (WS v)[338]? = some (.inl (1, 64, .inl fun _ => 0)) := fun _ => rfl
set_option maxRecDepth 100000 in
theorem w339 : ∀ v, (WS v)[339]? = some (.inr (4, [.ref 340, .int (v 52)])) := fun _ => rfl
set_option maxRecDepth 100000 in
theorem w340 : ∀ v, (WS v)[340]? = some (.inl (1, 64, .inl fun _ => 0)) := fun _ => rfl
set_option maxRecDepth 100000 in
theorem w341 : ∀ v, (WS v)[341]? = some (.inr (4, [.ref 342, .int (v 53)])) := fun _ => rfl
set_option maxRecDepth 100000 in
theorem w342 : ∀ v, (WS v)[342]? = some (.inl (1, 64, .inl fun _ => 0)) := fun _ => rfl
set_option maxRecDepth 100000 in
theorem w343 : ∀ v, (WS v)[343]? = some (.inr (11, [.ref 344, .ref 345, .ref 346, .ref 347, .int (v 54), .ref 348, .ref 349, .ref 351, .ref 353, .ref 355, .ref 356])) := fun _ => rfl
set_option maxRecDepth 100000 in
theorem w344 : ∀ v, (WS v)[344]? = some (.inl (5, 3, .inr (.inr (.inr (.inr fun j => [some 357, some 359, some 361].getD j none))))) := fun _ => rfl
set_option maxRecDepth 100000 in
theorem w345 : ∀ v, (WS v)[345]? = some (.inl (5, 3, .inr (.inr (.inr (.inr fun j => [some 363, some 365, some 367].getD j none))))) := fun _ => rfl
set_option maxRecDepth 100000 in
theorem w346 : ∀ v, (WS v)[346]? = some (.inl (1, 64, .inl fun _ => 0)) := fun _ => rfl
set_option maxRecDepth 100000 in
theorem w347 : ∀ v, (WS v)[347]? = some (.inl (1, 64, .inl fun _ => 0)) := fun _ => rfl
set_option maxRecDepth 100000 in
theorem w348 : ∀ v, (WS v)[348]? = some (.inl (3, 3, .inl fun q => [v 85, v 86, v 87].getD q 0)) := fun _ => rfl
set_option maxRecDepth 100000 in
theorem w349 : ∀ v, (WS v)[349]? = some (.inr (4, [.ref 350, .int (v 55)])) := fun _ => rfl
set_option maxRecDepth 100000 in
theorem w350 : ∀ v, (WS v)[350]? = some (.inl (1, 200, .inl fun _ => 0)) := fun _ => rfl
set_option maxRecDepth 100000 in
theorem w351 : ∀ v, (WS v)[351]? = some (.inr (4, [.ref 352, .int (v 56)])) := fun _ => rfl
set_option maxRecDepth 100000 in
theorem w352 : ∀ v, (WS v)[352]? = some (.inl (1, 96, .inl fun _ => 0)) := fun _ => rfl
set_option maxRecDepth 100000 in
theorem w353 : ∀ v, (WS v)[353]? = some (.inr (4, [.ref 354, .int (v 57)])) := fun _ => rfl
set_option maxRecDepth 100000 in
theorem w354 : ∀ v, (WS v)[354]? = some (.inl (1, 128, .inl fun _ => 0)) := fun _ => rfl
set_option maxRecDepth 100000 in
theorem w355 : ∀ v, (WS v)[355]? = some (.inl (1, 32, .inl fun _ => 0)) := fun _ => rfl
set_option maxRecDepth 100000 in
theorem w356 : ∀ v, (WS v)[356]? = some (.inl (1, 32, .inl fun _ => 0)) := fun _ => rfl
set_option maxRecDepth 100000 in
theorem w357 : ∀ v, (WS v)[357]? = some (.inr (4, [.ref 358, .int (v 58)])) := fun _ => rfl
set_option maxRecDepth 100000 in
theorem w358 : ∀ v, (WS v)[358]? = some (.inl (1, 96, .inl fun _ => 0)) := fun _ => rfl
set_option maxRecDepth 100000 in
theorem w359 : ∀ v, (WS v)[359]? = some (.inr (4, [.ref 360, .int (v 59)])) := fun _ => rfl
set_option maxRecDepth 100000 in
theorem w360 : ∀ v, (WS v)[360]? = some (.inl (1, 320, .inl fun _ => 0)) := fun _ => rfl
set_option maxRecDepth 100000 in
theorem w361 : ∀ v, (WS v)[361]? = some (.inr (4, [.ref 362, .int (v 60)])) := fun _ => rfl
set_option maxRecDepth 100000 in
theorem w362 : ∀ v, (WS v)[362]? = some (.inl (1, 64, .inl fun _ => 0)) := fun _ => rfl
set_option maxRecDepth 100000 in
theorem w363 : ∀ v, (WS v)[363]? = some (.inr (4, [.ref 364, .int (v 61)])) := fun _ => rfl
set_option maxRecDepth 100000 in
theorem w364 : ∀ v, (WS v)[364]? = some (.inl (1, 64, .inl fun _ => 0)) := fun _ => rfl
set_option maxRecDepth 100000 in
theorem w365 : ∀ v, (WS v)[365]? = some (.inr (4, [.ref 366, .int (v 62)])) := fun _ => rfl
set_option maxRecDepth 100000 in
theorem w366 : ∀ v, (WS v)[366]? = some (.inl (1, 64, .inl fun _ => 0)) := fun _ => rfl
set_option maxRecDepth 100000 in
theorem w367 : ∀ v, (WS v)[367]? = some (.inr (4, [.ref 368, .int (v 63)])) := fun _ => rfl
set_option maxRecDepth 100000 in
theorem w368 : ∀ v, (WS v)[368]? = some (.inl (1, 64, .inl fun _ => 0)) := fun _ => rfl
set_option maxRecDepth 100000 in
theorem w369 : ∀ v, (WS v)[369]? = some (.inr (4, [.ref 370, .int (v 64)])) := fun _ => rfl
set_option maxRecDepth 100000 in
theorem w370 : ∀ v, (WS v)[370]? = some (.inl (1, 200, .inl fun _ => 0)) := fun _ => rfl
set_option maxRecDepth 100000 in
theorem w371 : ∀ v, (WS v)[371]? = some (.inr (4, [.ref 372, .int (v 65)])) := fun _ => rfl
set_option maxRecDepth 100000 in
theorem w372 : ∀ v, (WS v)[372]? = some (.inl (1, 64, .inl fun _ => 0)) := fun _ => rfl
set_option maxRecDepth 100000 in
theorem w373 : ∀ v, (WS v)[373]? = some (.inr (12, [.int (v 66), .ref 374, .int (v 67), .ref 375, .ref 376, .ref 377, .ref 378, .ref 379, .ref 380, .ref 381, .ref 382, .ref 383, .ref 384, .int (v 68), .ref 385, .ref 386, .ref 387, .int (v 69), .ref 388, .ref 389, .int (v 70), .ref 390, .ref 391, .ref 392, .ref 393, .ref 394, .ref 395, .ref 396, .ref 397, .ref 398, .ref 399, .ref 400, .ref 401, .int (v 71), .int (v 72), .ref 402, .ref 403, .ref 404, .ref 405, .ref 406, .ref 407, .ref 408, .ref 409, .int (v 73), .ref 410, .int (v 74), .ref 411, .ref 412, .ref 413, .ref 414, .ref 415, .ref 416, .ref 417, .ref 418, .ref 419, .ref 420, .ref 421, .ref 422, .ref 423, .ref 424, .ref 425, .ref 426, .ref 427, .ref 428, .ref 429, .ref 430, .ref 431, .ref 432, .ref 433, .ref 434, .ref 435, .ref 436, .ref 437, .ref 438, .ref 439, .ref 440, .ref 441, .int (v 75), .ref 442, .ref 443, .ref 444, .ref 445, .ref 446, .ref 447, .ref 448, .ref 449, .ref 450])) := fun _ => rfl
set_option maxRecDepth 100000 in
theorem w374 : ∀ v, (WS v)[374]? = some (.inl (2, 4000, .inl fun _ => 0)) := fun _ => rfl
set_option maxRecDepth 100000 in
theorem w375 : ∀ v, (WS v)[375]? = some (.inl (0, 80, .inr (.inl fun _ => 0))) := fun _ => rfl
set_option maxRecDepth 100000 in
theorem w376 : ∀ v, (WS v)[376]? = some (.inl (0, 8, .inr (.inl fun _ => 0))) := fun _ => rfl
set_option maxRecDepth 100000 in
theorem w377 : ∀ v, (WS v)[377]? = some (.inl (0, 5, .inr (.inl fun _ => 0))) := fun _ => rfl
set_option maxRecDepth 100000 in
theorem w378 : ∀ v, (WS v)[378]? = some (.inl (0, 12, .inr (.inl fun _ => 0))) := fun _ => rfl
set_option maxRecDepth 100000 in
theorem w379 : ∀ v, (WS v)[379]? = some (.inl (0, 20, .inr (.inl fun _ => 0))) := fun _ => rfl
set_option maxRecDepth 100000 in
theorem w380 : ∀ v, (WS v)[380]? = some (.inl (0, 80, .inr (.inl fun _ => 0))) := fun _ => rfl
set_option maxRecDepth 100000 in
theorem w381 : ∀ v, (WS v)[381]? = some (.inl (0, 8, .inr (.inl fun _ => 0))) := fun _ => rfl
set_option maxRecDepth 100000 in
theorem w382 : ∀ v, (WS v)[382]? = some (.inl (0, 8, .inr (.inl fun _ => 0))) := fun _ => rfl
set_option maxRecDepth 100000 in
theorem w383 : ∀ v, (WS v)[383]? = some (.inl (2, 64, .inl fun _ => 0)) := fun _ => rfl
set_option maxRecDepth 100000 in
theorem w384 : ∀ v, (WS v)[384]? = some (.inl (2, 2000, .inl fun _ => 0)) := fun _ => rfl
set_option maxRecDepth 100000 in
theorem w385 : ∀ v, (WS v)[385]? = some (.inl (2, 64, .inl fun _ => 0)) := fun _ => rfl
set_option maxRecDepth 100000 in
theorem w386 : ∀ v, (WS v)[386]? = some (.inl (2, 64, .inl fun _ => 0)) := fun _ => rfl
set_option maxRecDepth 100000 in
theorem w387 : ∀ v, (WS v)[387]? = some (.inl (2, 400, .inl fun _ => 0)) := fun _ => rfl
set_option maxRecDepth 100000 in
theorem w388 : ∀ v, (WS v)[388]? = some (.inl (2, 192, .inl fun _ => 0)) := fun _ => rfl
set_option maxRecDepth 100000 in
theorem w389 : ∀ v, (WS v)[389]? = some (.inl (2, 100, .inl fun _ => 0)) := fun _ => rfl
set_option maxRecDepth 100000 in
theorem w390 : ∀ v, (WS v)[390]? = some (.inl (0, 1024, .inr (.inl fun _ => 0))) := fun _ => rfl
set_option maxRecDepth 100000 in
theorem w391 : ∀ v, (WS v)[391]? = some (.inl (0, 31, .inr (.inl fun _ => 0))) := fun _ => rfl
set_option maxRecDepth 100000 in
theorem w392 : ∀ v, (WS v)[392]? = some (.inl (0, 16, .inr (.inl fun _ => 0))) := fun _ => rfl
set_option maxRecDepth 100000 in
theorem w393 : ∀ v, (WS v)[393]? = some (.inl (0, 16, .inr (.inl fun _ => 0))) := fun _ => rfl
set_option maxRecDepth 100000 in
theorem w394 : ∀ v, (WS v)[394]? = some (.inl (2, 32, .inl fun _ => 0)) := fun _ => rfl
set_option maxRecDepth 100000 in
theorem w395 : ∀ v, (WS v)[395]? = some (.inl (0, 16, .inr (.inl fun _ => 0))) := fun _ => rfl
set_option maxRecDepth 100000 in
theorem w396 : ∀ v, (WS v)[396]? = some (.inl (0, 17, .inr (.inl fun _ => 0))) := fun _ => rfl
set_option maxRecDepth 100000 in
theorem w397 : ∀ v, (WS v)[397]? = some (.inl (0, 17, .inr (.inl fun _ => 0))) := fun _ => rfl
set_option maxRecDepth 100000 in
theorem w398 : ∀ v, (WS v)[398]? = some (.inl (0, 32, .inr (.inl fun _ => 0))) := fun _ => rfl
set_option maxRecDepth 100000 in
theorem w399 : ∀ v, (WS v)[399]? = some (.inl (0, 16, .inr (.inl fun _ => 0))) := fun _ => rfl
set_option maxRecDepth 100000 in
theorem w400 : ∀ v, (WS v)[400]? = some (.inl (0, 16, .inr (.inl fun _ => 0))) := fun _ => rfl
set_option maxRecDepth 100000 in
theorem w401 : ∀ v, (WS v)[401]? = some (.inl (2, 400, .inl fun _ => 0)) := fun _ => rfl
set_option maxRecDepth 100000 in
theorem w402 : ∀ v, (WS v)[402]? = some (.inl (2, 64, .inl fun _ => 0)) := fun _ => rfl
set_option maxRecDepth 100000 in
theorem w403 : ∀ v, (WS v)[403]? = some (.inl (0, 16, .inr (.inl fun _ => 0))) := fun _ => rfl
set_option maxRecDepth 100000 in
theorem w404 : ∀ v, (WS v)[404]? = some (.inl (2, 32, .inl fun _ => 0)) := fun _ => rfl
set_option maxRecDepth 100000 in
theorem w405 : ∀ v, (WS v)[405]? = some (.inl (3, 8, .inl fun _ => 0)) := fun _ => rfl
set_option maxRecDepth 100000 in
theorem w406 : ∀ v, (WS v)[406]? = some (.inl (2, 1536, .inl fun _ => 0)) := fun _ => rfl
set_option maxRecDepth 100000 in
theorem w407 : ∀ v, (WS v)[407]? = some (.inl (2, 192, .inl fun _ => 0)) := fun _ => rfl
set_option maxRecDepth 100000 in
theorem w408 : ∀ v, (WS v)[408]? = some (.inl (2, 400, .inl fun _ => 0)) := fun _ => rfl
set_option maxRecDepth 100000 in
theorem w409 : ∀ v, (WS v)[409]? = some (.inl (2, 200, .inl fun _ => 0)) := fun _ => rfl
set_option maxRecDepth 100000 in
theorem w410 : ∀ v, (WS v)[410]? = some (.inl (2, 64, .inl fun _ => 0)) := fun _ => rfl
set_option maxRecDepth 100000 in
theorem w411 : ∀ v, (WS v)[411]? = some (.inl (2, 64, .inl fun _ => 0)) := fun _ => rfl
set_option maxRecDepth 100000 in
theorem w412 : ∀ v, (WS v)[412]? = some (.inl (2, 32, .inl fun _ => 0)) := fun _ => rfl
set_option maxRecDepth 100000 in
theorem w413 : ∀ v, (WS v)[413]? = some (.inl (2, 32, .inl fun _ => 0)) := fun _ => rfl
set_option maxRecDepth 100000 in
theorem w414 : ∀ v, (WS v)[414]? = some (.inl (0, 16, .inr (.inl fun _ => 0))) := fun _ => rfl
set_option maxRecDepth 100000 in
theorem w415 : ∀ v, (WS v)[415]? = some (.inl (2, 64, .inl fun _ => 0)) := fun _ => rfl
set_option maxRecDepth 100000 in
theorem w416 : ∀ v, (WS v)[416]? = some (.inl (2, 64, .inl fun _ => 0)) := fun _ => rfl
set_option maxRecDepth 100000 in
theorem w417 : ∀ v, (WS v)[417]? = some (.inl (2, 64, .inl fun _ => 0)) := fun _ => rfl
set_option maxRecDepth 100000 in
theorem w418 : ∀ v, (WS v)[418]? = some (.inl (0, 16, .inr (.inl fun _ => 0))) := fun _ => rfl
set_option maxRecDepth 100000 in
theorem w419 : ∀ v, (WS v)[419]? = some (.inl (2, 4, .inl fun q => [v 88, v 89, v 90, v 91].getD q 0)) := fun _ => rfl
set_option maxRecDepth 100000 in
theorem w420 : ∀ v, (WS v)[420]? = some (.inl (2, 800, .inl fun _ => 0)) := fun _ => rfl
set_option maxRecDepth 100000 in
theorem w421 : ∀ v, (WS v)[421]? = some (.inl (2, 4, .inl fun q => [v 92, v 93, v 94, v 95].getD q 0)) := fun _ => rfl
set_option maxRecDepth 100000 in
theorem w422 : ∀ v, (WS v)[422]? = some (.inl (0, 64, .inr (.inl fun _ => 0))) := fun _ => rfl
set_option maxRecDepth 100000 in
theorem w423 : ∀ v, (WS v)[423]? = some (.inl (0, 64, .inr (.inl fun _ => 0))) := fun _ => rfl
set_option maxRecDepth 100000 in
theorem w424 : ∀ v, (WS v)[424]? = some (.inl (3, 4, .inl fun q => [v 96, v 97, v 98, v 99].getD q 0)) := fun _ => rfl
set_option maxRecDepth 100000 in
theorem w425 : ∀ v, (WS v)[425]? = some (.inl (3, 4, .inl fun q => [v 100, v 101, v 102, v 103].getD q 0)) := fun _ => rfl
set_option maxRecDepth 100000 in
theorem w426 : ∀ v, (WS v)[426]? = some (.inl (3, 4, .inl fun q => [v 104, v 105, v 106, v 107].getD q 0)) := fun _ => rfl
set_option maxRecDepth 100000 in
theorem w427 : ∀ v, (WS v)[427]? = some (.inl (3, 4, .inl fun q => [v 108, v 109, v 110, v 111].getD q 0)) := fun _ => rfl
set_option maxRecDepth 100000 in
theorem w428 : ∀ v, (WS v)[428]? = some (.inl (3, 4, .inl fun q => [v 112, v 113, v 114, v 115].getD q 0)) := fun _ => rfl
set_option maxRecDepth 100000 in
theorem w429 : ∀ v, (WS v)[429]? = some (.inl (3, 4, .inl fun q => [v 116, v 117, v 118, v 119].getD q 0)) := fun _ => rfl
set_option maxRecDepth 100000 in
theorem w430 : ∀ v, (WS v)[430]? = some (.inl (3, 4, .inl fun q => [v 120, v 121, v 122, v 123].getD q 0)) := fun _ => rfl
set_option maxRecDepth 100000 in
theorem w431 : ∀ v, (WS v)[431]? = some (.inl (3, 4, .inl fun q => [v 124, v 125, v 126, v 127].getD q 0)) := fun _ => rfl
set_option maxRecDepth 100000 in
theorem w432 : ∀ v, (WS v)[432]? = some (.inl (2, 384, .inl fun _ => 0)) := fun _ => rfl
set_option maxRecDepth 100000 in
theorem w433 : ∀ v, (WS v)[433]? = some (.inl (2, 384, .inl fun _ => 0)) := fun _ => rfl
set_option maxRecDepth 100000 in
theorem w434 : ∀ v, (WS v)[434]? = some (.inl (2, 1280, .inl fun _ => 0)) := fun _ => rfl
set_option maxRecDepth 100000 in
theorem w435 : ∀ v, (WS v)[435]? = some (.inl (2, 256, .inl fun _ => 0)) := fun _ => rfl
set_option maxRecDepth 100000 in
theorem w436 : ∀ v, (WS v)[436]? = some (.inl (2, 256, .inl fun _ => 0)) := fun _ => rfl
set_option maxRecDepth 100000 in
theorem w437 : ∀ v, (WS v)[437]? = some (.inl (2, 256, .inl fun _ => 0)) := fun _ => rfl
set_option maxRecDepth 100000 in
theorem w438 : ∀ v, (WS v)[438]? = some (.inl (2, 256, .inl fun _ => 0)) := fun _ => rfl
set_option maxRecDepth 100000 in
theorem w439 : ∀ v, (WS v)[439]? = some (.inl (2, 256, .inl fun _ => 0)) := fun _ => rfl
set_option maxRecDepth 100000 in
theorem w440 : ∀ v, (WS v)[440]? = some (.inl (2, 96, .inl fun _ => 0)) := fun _ => rfl
set_option maxRecDepth 100000 in
theorem w441 : ∀ v, (WS v)[441]? = some (.inl (2, 500, .inl fun _ => 0)) := fun _ => rfl
set_option maxRecDepth 100000 in
theorem w442 : ∀ v, (WS v)[442]? = some (.inl (2, 64, .inl fun _ => 0)) := fun _ => rfl
set_option maxRecDepth 100000 in
theorem w443 : ∀ v, (WS v)[443]? = some (.inl (2, 64, .inl fun _ => 0)) := fun _ => rfl
set_option maxRecDepth 100000 in
theorem w444 : ∀ v, (WS v)[444]? = some (.inl (2, 64, .inl fun _ => 0)) := fun _ => rfl
set_option maxRecDepth 100000 in
theorem w445 : ∀ v, (WS v)[445]? = some (.inl (2, 64, .inl fun _ => 0)) := fun _ => rfl
set_option maxRecDepth 100000 in
theorem w446 : ∀ v, (WS v)[446]? = some (.inl (2, 64, .inl fun _ => 0)) := fun _ => rfl
set_option maxRecDepth 100000 in
theorem w447 : ∀ v, (WS v)[447]? = some (.inl (2, 64, .inl fun _ => 0)) := fun _ => rfl
set_option maxRecDepth 100000 in
theorem w448 : ∀ v, (WS v)[448]? = some (.inl (2, 128, .inl fun _ => 0)) := fun _ => rfl
set_option maxRecDepth 100000 in
theorem w449 : ∀ v, (WS v)[449]? = some (.inl (0, 16, .inr (.inl fun _ => 0))) := fun _ => rfl
set_option maxRecDepth 100000 in
theorem w450 : ∀ v, (WS v)[450]? = some (.inl (2, 128, .inl fun _ => 0)) := fun _ => rfl
/-- places whose arrays stand there with their contents -/
def exl (i : Nat) : Bool := [270, 296, 322, 348, 419, 421, 424, 425, 426, 427, 428, 429, 430, 431].contains i
set_option maxRecDepth 100000 in
theorem u62_18 : ∀ v x, (WS v).set 62 (.inr (1, [.ref 63, .ref 66, .ref 77, .ref 183, .ref 188, .ref 193, .ref 198, .ref 199, .ref 200, .ref 201, .ref 202, .ref 203, .ref 205, .ref 206, .ref 207, .ref 212, .ref 213, .ref 215, .int x, .int (v 1)])) = WS (va_up v 0 x) := fun _ _ => rfl
set_option maxRecDepth 100000 in
theorem u62_19 : ∀ v x, (WS v).set 62 (.inr (1, [.ref 63, .ref 66, .ref 77, .ref 183, .ref 188, .ref 193, .ref 198, .ref 199, .ref 200, .ref 201, .ref 202, .ref 203, .ref 205, .ref 206, .ref 207, .ref 212, .ref 213, .ref 215, .int (v 0), .int x])) = WS (va_up v 1 x) := fun _ _ => rfl
set_option maxRecDepth 100000 in
theorem u70_1 : ∀ v x, (WS v).set 70 (.inr (4, [.ref 71, .int x])) = WS (va_up v 2 x) := fun _ _ => rfl
set_option maxRecDepth 100000 in
theorem u72_1 : ∀ v x, (WS v).set 72 (.inr (4, [.ref 73, .int x])) = WS (va_up v 3 x) := fun _ _ => rfl
set_option maxRecDepth 100000 in
theorem u92_1 : ∀ v x, (WS v).set 92 (.inr (4, [.ref 93, .int x])) = WS (va_up v 4 x) := fun _ _ => rfl
set_option maxRecDepth 100000 in
theorem u203_1 : ∀ v x, (WS v).set 203 (.inr (4, [.ref 204, .int x])) = WS (va_up v 5 x) := fun _ _ => rfl
set_option maxRecDepth 100000 in
theorem u213_1 : ∀ v x, (WS v).set 213 (.inr (4, [.ref 214, .int x])) = WS (va_up v 6 x) := fun _ _ => rfl
set_option maxRecDepth 100000 in
theorem u215_1 : ∀ v x, (WS v).set 215 (.inr (4, [.ref 216, .int x])) = WS (va_up v 7 x) := fun _ _ => rfl
set_option maxRecDepth 100000 in
theorem u221_1 : ∀ v x, (WS v).set 221 (.inr (4, [.ref 222, .int x])) = WS (va_up v 8 x) := fun _ _ => rfl
set_option maxRecDepth 100000 in
theorem u223_1 : ∀ v x, (WS v).set 223 (.inr (4, [.ref 224, .int x])) = WS (va_up v 9 x) := fun _ _ => rfl
set_option maxRecDepth 100000 in
theorem u225_1 : ∀ v x, (WS v).set 225 (.inr (4, [.ref 226, .int x])) = WS (va_up v 10 x) := fun _ _ => rfl
set_option maxRecDepth 100000 in
theorem u233_1 : ∀ v x, (WS v).set 233 (.inr (4, [.ref 234, .int x])) = WS (va_up v 11 x) := fun _ _ => rfl
set_option maxRecDepth 100000 in
theorem u235_1 : ∀ v x, (WS v).set 235 (.inr (4, [.ref 236, .int x])) = WS (va_up v 12 x) := fun _ _ => rfl
set_option maxRecDepth 100000 in
theorem u237_1 : ∀ v x, (WS v).set 237 (.inr (4, [.ref 238, .int x])) = WS (va_up v 13 x) := fun _ _ => rfl
set_option maxRecDepth 100000 in
theorem u239_1 : ∀ v x, (WS v).set 239 (.inr (4, [.ref 240, .int x])) = WS (va_up v 14 x) := fun _ _ => rfl
set_option maxRecDepth 100000 in
theorem u243_1 : ∀ v x, (WS v).set 243 (.inr (4, [.ref 244, .int x])) = WS (va_up v 15 x) := fun _ _ => rfl
set_option maxRecDepth 100000 in
theorem u248_1 : ∀ v x, (WS v).set 248 (.inr (4, [.ref 249, .int x])) = WS (va_up v 16 x) := fun _ _ => rfl
set_option maxRecDepth 100000 in
theorem u250_1 : ∀ v x, (WS v).set 250 (.inr (4, [.ref 251, .int x])) = WS (va_up v 17 x) := fun _ _ => rfl
set_option maxRecDepth 100000 in
theorem u252_1 : ∀ v x, (WS v).set 252 (.inr (4, [.ref 253, .int x])) = WS (va_up v 18 x) := fun _ _ => rfl
set_option maxRecDepth 100000 in
theorem u254_1 : ∀ v x, (WS v).set 254 (.inr (4, [.ref 255, .int x])) = WS (va_up v 19 x) := fun _ _ => rfl
set_option maxRecDepth 100000 in
theorem u256_1 : ∀ v x, (WS v).set 256 (.inr (4, [.ref 257, .int x])) = WS (va_up v 20 x) := fun _ _ => rfl
set_option maxRecDepth 100000 in
theorem u258_1 : ∀ v x, (WS v).set 258 (.inr (4, [.ref 259, .int x])) = WS (va_up v 21 x) := fun _ _ => rfl
set_option maxRecDepth 100000 in
theorem u260_1 : ∀ v x, (WS v).set 260 (.inr (4, [.ref 261, .int x])) = WS (va_up v 22 x) := fun _ _ => rfl
set_option maxRecDepth 100000 in
theorem u262_1 : ∀ v x, (WS v).set 262 (.inr (4, [.ref 263, .int x])) = WS (va_up v 23 x) := fun _ _ => rfl
set_option maxRecDepth 100000 in
theorem u265_4 : ∀ v x, (WS v).set 265 (.inr (11, [.ref 266, .ref 267, .ref 268, .ref 269, .int x, .ref 270, .ref 271, .ref 273, .ref 275, .ref 277, .ref 278])) = WS (va_up v 24 x) := fun _ _ => rfl
set_option maxRecDepth 100000 in
theorem u271_1 : ∀ v x, (WS v).set 271 (.inr (4, [.ref 272, .int x])) = WS (va_up v 25 x) := fun _ _ => rfl
set_option maxRecDepth 100000 in
theorem u273_1 : ∀ v x, (WS v).set 273 (.inr (4, [.ref 274, .int x])) = WS (va_up v 26 x) := fun _ _ => rfl
set_option maxRecDepth 100000 in
theorem u275_1 : ∀ v x, (WS v).set 275 (.inr (4, [.ref 276, .int x])) = WS (va_up v 27 x) := fun _ _ => rfl
set_option maxRecDepth 100000 in
theorem u279_1 : ∀ v x, (WS v).set 279 (.inr (4, [.ref 280, .int x])) = WS (va_up v 28 x) := fun _ _ => rfl
set_option maxRecDepth 100000 in
theorem u281_1 : ∀ v x, (WS v).set 281 (.inr (4, [.ref 282, .int x])) = WS (va_up v 29 x) := fun _ _ => rfl
set_option maxRecDepth 100000 in
theorem u283_1 : ∀ v x, (WS v).set 283 (.inr (4, [.ref 284, .int x])) = WS (va_up v 30 x) := fun _ _ => rfl
set_option maxRecDepth 100000 in
theorem u285_1 : ∀ v x, (WS v).set 285 (.inr (4, [.ref 286, .int x])) = WS (va_up v 31 x) := fun _ _ => rfl
set_option maxRecDepth 100000 in
theorem u287_1 : ∀ v x, (WS v).set 287 (.inr (4, [.ref 288, .int x])) = WS (va_up v 32 x) := fun _ _ => rfl
set_option maxRecDepth 100000 in
theorem u289_1 : ∀ v x, (WS v).set 289 (.inr (4, [.ref 290, .int x])) = WS (va_up v 33 x) := fun _ _ => rfl
set_option maxRecDepth 100000 in
theorem u291_4 : ∀ v x, (WS v).set 291 (.inr (11, [.ref 292, .ref 293, .ref 294, .ref 295, .int x, .ref 296, .ref 297, .ref 299, .ref 301, .ref 303, .ref 304])) = WS (va_up v 34 x) := fun _ _ => rfl
set_option maxRecDepth 100000 in
theorem u297_1 : ∀ v x, (WS v).set 297 (.inr (4, [.ref 298, .int x])) = WS (va_up v 35 x) := fun _ _ => rfl
set_option maxRecDepth 100000 in
theorem u299_1 : ∀ v x, (WS v).set 299 (.inr (4, [.ref 300, .int x])) = WS (va_up v 36 x) := fun _ _ => rfl
set_option maxRecDepth 100000 in
theorem u301_1 : ∀ v x, (WS v).set 301 (.inr (4, [.ref 302, .int x])) = WS (va_up v 37 x) := fun _ _ => rfl
set_option maxRecDepth 100000 in
theorem u305_1 : ∀ v x, (WS v).set 305 (.inr (4, [.ref 306, .int x])) = WS (va_up v 38 x) := fun _ _ => rfl
set_option maxRecDepth 100000 in
theorem u307_1 : ∀ v x, (WS v).set 307 (.inr (4, [.ref 308, .int x])) = WS (va_up v 39 x) := fun _ _ => rfl
set_option maxRecDepth 100000 in
theorem u309_1 : ∀ v x, (WS v).set 309 (.inr (4, [.ref 310, .int x])) = WS (va_up v 40 x) := fun _ _ => rfl
set_option maxRecDepth 100000 in
theorem u311_1 : ∀ v x, (WS v).set 311 (.inr (4, [.ref 312, .int x])) = WS (va_up v 41 x) := fun _ _ => rfl
set_option maxRecDepth 100000 in
theorem u313_1 : ∀ v x, (WS v).set 313 (.inr (4, [.ref 314, .int x])) = WS (va_up v 42 x) := fun _ _ => rfl
set_option maxRecDepth 100000 in
theorem u315_1 : ∀ v x, (WS v).set 315 (.inr (4, [.ref 316, .int x])) = WS (va_up v 43 x) := fun _ _ => rfl
set_option maxRecDepth 100000 in
theorem u317_4 : ∀ v x, (WS v).set 317 (.inr (11, [.ref 318, .ref 319, .ref 320, .ref 321, .int x, .ref 322, .ref 323, .ref 325, .ref 327, .ref 329, .ref 330])) = WS (va_up v 44 x) := fun _ _ => rfl
set_option maxRecDepth 100000 in
theorem u323_1 : ∀ v x, (WS v).set 323 (.inr (4, [.ref 324, .int x])) = WS (va_up v 45 x) := fun _ _ => rfl
set_option maxRecDepth 100000 in
theorem u325_1 : ∀ v x, (WS v).set 325 (.inr (4, [.ref 326, .int x])) = WS (va_up v 46 x) := fun _ _ => rfl
set_option maxRecDepth 100000 in
theorem u327_1 : ∀ v x, (WS v).set 327 (.inr (4, [.ref 328, .int x])) = WS (va_up v 47 x) := fun _ _ => rfl
set_option maxRecDepth 100000 in
theorem u331_1 : ∀ v x, (WS v).set 331 (.inr (4, [.ref 332, .int x])) = WS (va_up v 48 x) := fun _ _ => rfl
set_option maxRecDepth 100000 in
theorem u333_1 : ∀ v x, (WS v).set 333 (.inr (4, [.ref 334, .int x])) = WS (va_up v 49 x) := fun _ _ => rfl
set_option maxRecDepth 100000 in
theorem u335_1 : ∀ v x, (WS v).set 335 (.inr (4, [.ref 336, .int x])) = WS (va_up v 50 x) := fun _ _ => rfl
set_option maxRecDepth 100000 in
theorem u337_1 : ∀ v x, (WS v).set 337 (.inr (4, [.ref 338, .int x])) = WS (va_up v 51 x) := fun _ _ => rfl
set_option maxRecDepth 100000 in
theorem u339_1 : ∀ v x, (WS v).set 339 (.inr (4, [.ref 340, .int x])) = WS (va_up v 52 x) := fun _ _ => rfl
set_option maxRecDepth 100000 in
theorem u341_1 : ∀ v x, (WS v).set 341 (.inr (4, [.ref 342, .int x])) = WS (va_up v 53 x) := fun _ _ => rfl
set_option maxRecDepth 100000 in
theorem u343_4 : ∀ v x, (WS v).set 343 (.inr (11, [.ref 344, .ref 345, .ref 346, .ref 347, .int x, .ref 348, .ref 349, .ref 351, .ref 353, .ref 355, .ref 356])) = WS (va_up v 54 x) := fun _ _ => rfl
set_option maxRecDepth 100000 in
theorem u349_1 : ∀ v x, (WS v).set 349 (.inr (4, [.ref 350, .int x])) = WS (va_up v 55 x) := fun _ _ => rfl
set_option maxRecDepth 100000 in
theorem u351_1 : ∀ v x, (WS v).set 351 (.inr (4, [.ref 352, .int x])) = WS (va_up v 56 x) := fun _ _ => rfl
set_option maxRecDepth 100000 in
theorem u353_1 : ∀ v x, (WS v).set 353 (.inr (4, [.ref 354, .int x])) = WS (va_up v 57 x) := fun _ _ => rfl
set_option maxRecDepth 100000 in
theorem u357_1 : ∀ v x, (WS v).set 357 (.inr (4, [.ref 358, .int x])) = WS (va_up v 58 x) := fun _ _ => rfl
set_option maxRecDepth 100000 in
theorem u359_1 : ∀ v x, (WS v).set 359 (.inr (4, [.ref 360, .int x])) = WS (va_up v 59 x) := fun _ _ => rfl
set_option maxRecDepth 100000 in
theorem u361_1 : ∀ v x, (WS v).set 361 (.inr (4, [.ref 362, .int x])) = WS (va_up v 60 x) := fun _ _ => rfl
set_option maxRecDepth 100000 in
theorem u363_1 : ∀ v x, (WS v).set 363 (.inr (4, [.ref 364, .int x])) = WS (va_up v 61 x) := fun _ _ => rfl
set_option maxRecDepth 100000 in
theorem u365_1 : ∀ v x, (WS v).set 365 (.inr (4, [.ref 366, .int x])) = WS (va_up v 62 x) := fun _ _ => rfl
set_option maxRecDepth 100000 in
theorem u367_1 : ∀ v x, (WS v).set 367 (.inr (4, [.ref 368, .int x])) = WS (va_up v 63 x) := fun _ _ => rfl
set_option maxRecDepth 100000 in
theorem u369_1 : ∀ v x, (WS v).set 369 (.inr (4, [.ref 370, .int x])) = WS (va_up v 64 x) := fun _ _ => rfl
set_option maxRecDepth 100000 in
theorem u371_1 : ∀ v x, (WS v).set 371 (.inr (4, [.ref 372, .int x])) = WS (va_up v 65 x) := fun _ _ => rfl
set_option maxRecDepth 100000 in
theorem u373_0 : ∀ v x, (WS v).set 373 (.inr (12, [.int x, .ref 374, .int (v 67), .ref 375, .ref 376, .ref 377, .ref 378, .ref 379, .ref 380, .ref 381, .ref 382, .ref 383, .ref 384, .int (v 68), .ref 385, .ref 386, .ref 387, .int (v 69), .ref 388, .ref 389, .int (v 70), .ref 390, .ref 391, .ref 392, .ref 393, .ref 394, .ref 395, .ref 396, .ref 397, .ref 398, .ref 399, .ref 400, .ref 401, .int (v 71), .int (v 72), .ref 402, .ref 403, .ref 404, .ref 405, .ref 406, .ref 407, .ref 408, .ref 409, .int (v 73), .ref 410, .int (v 74), .ref 411, .ref 412, .ref 413, .ref 414, .ref 415, .ref 416, .ref 417, .ref 418, .ref 419, .ref 420, .ref 421, .ref 422, .ref 423, .ref 424, .ref 425, .ref 426, .ref 427, .ref 428, .ref 429, .ref 430, .ref 431, .ref 432, .ref 433, .ref 434, .ref 435, .ref 436, .ref 437, .ref 438, .ref 439, .ref 440, .ref 441, .int (v 75), .ref 442, .ref 443, .ref 444, .ref 445, .ref 446, .ref 447, .ref 448, .ref 449, .ref 450])) = WS (va_up v 66 x) := fun _ _ => rfl
set_option maxRecDepth 100000 in
theorem u373_2 : ∀ v x, (WS v).set 373 (.inr (12, [.int (v 66), .ref 374, .int x, .ref 375, .ref 376, .ref 377, .ref 378, .ref 379, .ref 380, .ref 381, .ref 382, .ref 383, .ref 384, .int (v 68), .ref 385, .ref 386, .ref 387, .int (v 69), .ref 388, .ref 389, .int (v 70), .ref 390, .ref 391, .ref 392, .ref 393, .ref 394, .ref 395, .ref 396, .ref 397, .ref 398, .ref 399, .ref 400, .ref 401, .int (v 71), .int (v 72), .ref 402, .ref 403, .ref 404, .ref 405, .ref 406, .ref 407, .ref 408, .ref 409, .int (v 73), .ref 410, .int (v 74), .ref 411, .ref 412, .ref 413, .ref 414, .ref 415, .ref 416, .ref 417, .ref 418, .ref 419, .ref 420, .ref 421, .ref 422, .ref 423, .ref 424, .ref 425, .ref 426, .ref 427, .ref 428, .ref 429, .ref 430, .ref 431, .ref 432, .ref 433, .ref 434, .ref 435, .ref 436, .ref 437, .ref 438, .ref 439, .ref 440, .ref 441, .int (v 75), .ref 442, .ref 443, .ref 444, .ref 445, .ref 446, .ref 447, .ref 448, .ref 449, .ref 450])) = WS (va_up v 67 x) := fun _ _ => rfl
set_option maxRecDepth 100000 in
theorem u373_13 : ∀ v x, (WS v).set 373 (.inr (12, [.int (v 66), .ref 374, .int (v 67), .ref 375, .ref 376, .ref 377, .ref 378, .ref 379, .ref 380, .ref 381, .ref 382, .ref 383, .ref 384, .int x, .ref 385, .ref 386, .ref 387, .int (v 69), .ref 388, .ref 389, .int (v 70), .ref 390, .ref 391, .ref 392, .ref 393, .ref 394, .ref 395, .ref 396, .ref 397, .ref 398, .ref 399, .ref 400, .ref 401, .int (v 71), .int (v 72), .ref 402, .ref 403, .ref 404, .ref 405, .ref 406, .ref 407, .ref 408, .ref 409, .int (v 73), .ref 410, .int (v 74), .ref 411, .ref 412, .ref 413, .ref 414, .ref 415, .ref 416, .ref 417, .ref 418, .ref 419, .ref 420, .ref 421, .ref 422, .ref 423, .ref 424, .ref 425, .ref 426, .ref 427, .ref 428, .ref 429, .ref 430, .ref 431, .ref 432, .ref 433, .ref 434, .ref 435, .ref 436, .ref 437, .ref 438, .ref 439, .ref 440, .ref 441, .int (v 75), .ref 442, .ref 443, .ref 444, .ref 445, .ref 446, .ref 447, .ref 448, .ref 449, .ref 450])) = WS (va_up v 68 x) := fun _ _ => rfl
set_option maxRecDepth 100000 in
theorem u373_17 : ∀ v x, (WS v).set 373 (.inr (12, [.int (v 66), .ref 374, .int (v 67), .ref 375, .ref 376, .ref 377, .ref 378, .ref 379, .ref 380, .ref 381, .ref 382, .ref 383, .ref 384, .int (v 68), .ref 385, .ref 386, .ref 387, .int x, .ref 388, .ref 389, .int (v 70), .ref 390, .ref 391, .ref 392, .ref 393, .ref 394, .ref 395, .ref 396, .ref 397, .ref 398, .ref 399, .ref 400, .ref 401, .int (v 71), .int (v 72), .ref 402, .ref 403, .ref 404, .ref 405, .ref 406, .ref 407, .ref 408, .ref 409, .int (v 73), .ref 410, .int (v 74), .ref 411, .ref 412, .ref 413, .ref 414, .ref 415, .ref 416, .ref 417, .ref 418, .ref 419, .ref 420, .ref 421, .ref 422, .ref 423, .ref 424, .ref 425, .ref 426, .ref 427, .ref 428, .ref 429, .ref 430, .ref 431, .ref 432, .ref 433, .ref 434, .ref 435, .ref 436, .ref 437, .ref 438, .ref 439, .ref 440, .ref 441, .int (v 75), .ref 442, .ref 443, .ref 444, .ref 445, .ref 446, .ref 447, .ref 448, .ref 449, .ref 450])) = WS (va_up v 69 x) := fun _ _ => rfl
set_option maxRecDepth 100000 in
theorem u373_20 : ∀ v x, (WS v).set 373 (.inr (12, [.int (v 66), .ref 374, .int (v 67), .ref 375, .ref 376, .ref 377, .ref 378, .ref 379, .ref 380, .ref 381, .ref 382, .ref 383, .ref 384, .int (v 68), .ref 385, .ref 386, .ref 387, .int (v 69), .ref 388, .ref 389, .int x, .ref 390, .ref 391, .ref 392, .ref 393, .ref 394, .ref 395, .ref 396, .ref 397, .ref 398, .ref 399, .ref 400, .ref 401, .int (v 71), .int (v 72), .ref 402, .ref 403, .ref 404, .ref 405, .ref 406, .ref 407, .ref 408, .ref 409, .int (v 73), .ref 410, .int (v 74), .ref 411, .ref 412, .ref 413, .ref 414, .ref 415, .ref 416, .ref 417, .ref 418, .ref 419, .ref 420, .ref 421, .ref 422, .ref 423, .ref 424, .ref 425, .ref 426, .ref 427, .ref 428, .ref 429, .ref 430, .ref 431, .ref 432, .ref 433, .ref 434, .ref 435, .ref 436, .ref 437, .ref 438, .ref 439, .ref 440, .ref 441, .int (v 75), .ref 442, .ref 443, .ref 444, .ref 445, .ref 446, .ref 447, .ref 448, .ref 449, .ref 450])) = WS (va_up v 70 x) := fun _ _ => rfl
set_option maxRecDepth 100000 in
theorem u373_33 : ∀ v x, (WS v).set 373 (.inr (12, [.int (v 66), .ref 374, .int (v 67), .ref 375, .ref 376, .ref 377, .ref 378, .ref 379, .ref 380, .ref 381, .ref 382, .ref 383, .ref 384, .int (v 68), .ref 385, .ref 386, .ref 387, .int (v 69), .ref 388, .ref 389, .int (v 70), .ref 390, .ref 391, .ref 392, .ref 393, .ref 394, .ref 395, .ref 396, .ref 397, .ref 398, .ref 399, .ref 400, .ref 401, .int x, .int (v 72), .ref 402, .ref 403, .ref 404, .ref 405, .ref 406, .ref 407, .ref 408, .ref 409, .int (v 73), .ref 410, .int (v 74), .ref 411, .ref 412, .ref 413, .ref 414, .ref 415, .ref 416, .ref 417, .ref 418, .ref 419, .ref 420, .ref 421, .ref 422, .ref 423, .ref 424, .ref 425, .ref 426, .ref 427, .ref 428, .ref 429, .ref 430, .ref 431, .ref 432, .ref 433, .ref 434, .ref 435, .ref 436, .ref 437, .ref 438, .ref 439, .ref 440, .ref 441, .int (v 75), .ref 442, .ref 443, .ref 444, .ref 445, .ref 446, .ref 447, .ref 448, .ref 449, .ref 450])) = WS (va_up v 71 x) := fun _ _ => rfl
set_option maxRecDepth 100000 in
theorem u373_34 : ∀ v x, (WS v).set 373 (.inr (12, [.int (v 66), .ref 374, .int (v 67), .ref 375, .ref 376, .ref 377, .ref 378, .ref 379, .ref 380, .ref 381, .ref 382, .ref 383, .ref 384, .int (v 68), .ref 385, .ref 386, .ref 387, .int (v 69), .ref 388, .ref 389, .int (v 70), .ref 390, .ref 391, .ref 392, .ref 393, .ref 394, .ref 395, .ref 396, .ref 397, .ref 398, .ref 399, .ref 400, .ref 401, .int (v 71), .int x, .ref 402, .ref 403, .ref 404, .ref 405, .ref 406, .ref 407, .ref 408, .ref 409, .int (v 73), .ref 410, .int (v 74), .ref 411, .ref 412, .ref 413, .ref 414, .ref 415, .ref 416, .ref 417, .ref 418, .ref 419, .ref 420, .ref 421, .ref 422, .ref 423, .ref 424, .ref 425, .ref 426, .ref 427, .ref 428, .ref 429, .ref 430, .ref 431, .ref 432, .ref 433, .ref 434, .ref 435, .ref 436, .ref 437, .ref 438, .ref 439, .ref 440, .ref 441, .int (v 75), .ref 442, .ref 443, .ref 444, .ref 445, .ref 446, .ref 447, .ref 448, .ref 449, .ref 450])) = WS (va_up v 72 x) := fun _ _ => rfl
set_option maxRecDepth 100000 in
theorem u373_43 : ∀ v x, (WS v).set 373 (.inr (12, [.int (v 66), .ref 374, .int (v 67), .ref 375, .ref 376, .ref 377, .ref 378, .ref 379, .ref 380, .ref 381, .ref 382, .ref 383, .ref 384, .int (v 68), .ref 385, .ref 386, .ref 387, .int (v 69), .ref 388, .ref 389, .int (v 70), .ref 390, .ref 391, .ref 392, .ref 393, .ref 394, .ref 395, .ref 396, .ref 397, .ref 398, .ref 399, .ref 400, .ref 401, .int (v 71), .int (v 72), .ref 402, .ref 403, .ref 404, .ref 405, .ref 406, .ref 407, .ref 408, .ref 409, .int x, .ref 410, .int (v 74), .ref 411, .ref 412, .ref 413, .ref 414, .ref 415, .ref 416, .ref 417, .ref 418, .ref 419, .ref 420, .ref 421, .ref 422, .ref 423, .ref 424, .ref 425, .ref 426, .ref 427, .ref 428, .ref 429, .ref 430, .ref 431, .ref 432, .ref 433, .ref 434, .ref 435, .ref 436, .ref 437, .ref 438, .ref 439, .ref 440, .ref 441, .int (v 75), .ref 442, .ref 443, .ref 444, .ref 445, .ref 446, .ref 447, .ref 448, .ref 449, .ref 450])) = WS (va_up v 73 x) := fun _ _ => rfl
set_option maxRecDepth 100000 in
theorem u373_45 : ∀ v x, (WS v).set 373 (.inr (12, [.int (v 66), .ref 374, .int (v 67), .ref 375, .ref 376, .ref 377, .ref 378, .ref 379, .ref 380, .ref 381, .ref 382, .ref 383, .ref 384, .int (v 68), .ref 385, .ref 386, .ref 387, .int (v 69), .ref 388, .ref 389, .int (v 70), .ref 390, .ref 391, .ref 392, .ref 393, .ref 394, .ref 395, .ref 396, .ref 397, .ref 398, .ref 399, .ref 400, .ref 401, .int (v 71), .int (v 72), .ref 402, .ref 403, .ref 404, .ref 405, .ref 406, .ref 407, .ref 408, .ref 409, .int (v 73), .ref 410, .int x, .ref 411, .ref 412, .ref 413, .ref 414, .ref 415, .ref 416, .ref 417, .ref 418, .ref 419, .ref 420, .ref 421, .ref 422, .ref 423, .ref 424, .ref 425, .ref 426, .ref 427, .ref 428, .ref 429, .ref 430, .ref 431, .ref 432, .ref 433, .ref 434, .ref 435, .ref 436, .ref 437, .ref 438, .ref 439, .ref 440, .ref 441, .int (v 75), .ref 442, .ref 443, .ref 444, .ref 445, .ref 446, .ref 447, .ref 448, .ref 449, .ref 450])) = WS (va_up v 74 x) := fun _ _ => rfl
set_option maxRecDepth 100000 in
theorem u373_77 : ∀ v x, (WS v).set 373 (.inr (12, [.int (v 66), .ref 374, .int (v 67), .ref 375, .ref 376, .ref 377, .ref 378, .ref 379, .ref 380, .ref 381, .ref 382, .ref 383, .ref 384, .int (v 68), .ref 385, .ref 386, .ref 387, .int (v 69), .ref 388, .ref 389, .int (v 70), .ref 390, .ref 391, .ref 392, .ref 393, .ref 394, .ref 395, .ref 396, .ref 397, .ref 398, .ref 399, .ref 400, .ref 401, .int (v 71), .int (v 72), .ref 402, .ref 403, .ref 404, .ref 405, .ref 406, .ref 407, .ref 408, .ref 409, .int (v 73), .ref 410, .int (v 74), .ref 411, .ref 412, .ref 413, .ref 414, .ref 415, .ref 416, .ref 417, .ref 418, .ref 419, .ref 420, .ref 421, .ref 422, .ref 423, .ref 424, .ref 425, .ref 426, .ref 427, .ref 428, .ref 429, .ref 430, .ref 431, .ref 432, .ref 433, .ref 434, .ref 435, .ref 436, .ref 437, .ref 438, .ref 439, .ref 440, .ref 441, .int x, .ref 442, .ref 443, .ref 444, .ref 445, .ref 446, .ref 447, .ref 448, .ref 449, .ref 450])) = WS (va_up v 75 x) := fun _ _ => rfl
