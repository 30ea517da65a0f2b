abbrev Mem : Type := Int → Int → Int
def kdL : List Nat := [0, 21, 19, 1, 15, 14, 8, 1, 1, 1, 16, 1, 1, 13, 1, 1, 1, 1, 1, 1, 1, 10, 7, 20, 20, 20, 20, 20, 20, 20, 20, 20, 20, 20, 20, 20, 20, 20, 20, 20, 20, 20, 20, 20, 20, 20, 20, 20, 20, 20, 20, 20, 20, 20, 20, 20, 20, 20, 20, 20, 20, 20, 20, 11, 3, 2, 2, 12, 5, 17, 6, 1, 1, 18, 18, 18, 18, 18, 18, 18, 18, 18, 18, 18, 18, 18, 18, 18, 18, 18, 18, 18, 18, 18, 18, 18, 18, 18, 18, 18, 18, 18, 18, 18, 18, 18, 18, 18, 18, 18, 18, 18, 18, 17, 6, 1, 1, 18, 18, 18, 18, 18, 18, 18, 18, 18, 18, 18, 18, 18, 18, 18, 18, 18, 18, 18, 18, 18, 18, 18, 18, 18, 18, 18, 18, 18, 18, 18, 18, 18, 18, 18, 18, 18, 18, 18, 18, 17, 6, 1, 1, 18, 18, 18, 18, 18, 18, 18, 18, 18, 18, 18, 18, 18, 18, 18, 18, 18, 18, 18, 18, 18, 18, 18, 18, 18, 18, 18, 18, 18, 18, 18, 18, 18, 18, 18, 18, 18, 18, 18, 18, 1, 1, 2, 1, 17, 6, 1, 1, 18, 18, 18, 18, 18, 18, 18, 18, 18, 18, 18, 18, 18, 18, 18, 18, 18, 18, 18, 18, 18, 18, 18, 18, 18, 18, 18, 18, 18, 18, 18, 18, 18, 18, 18, 18, 18, 18, 18, 18, 17, 6, 1, 1, 18, 18, 18, 18, 18, 18, 18, 18, 18, 18, 18, 18, 18, 18, 18, 18, 18, 18, 18, 18, 18, 18, 18, 18, 18, 18, 18, 18, 18, 18, 18, 18, 18, 18, 18, 18, 18, 18, 18, 18, 17, 6, 1, 1, 18, 18, 18, 18, 18, 18, 18, 18, 18, 18, 18, 18, 18, 18, 18, 18, 18, 18, 18, 18, 18, 18, 18, 18, 18, 18, 18, 18, 18, 18, 18, 18, 18, 18, 18, 18, 18, 18, 18, 18, 72, 51, 54, 54, 54, 54, 54, 54, 54, 54, 54, 54, 54, 54, 54, 54, 54, 54, 54, 54, 54, 54, 54, 51, 51, 51, 51, 51, 51, 51, 52, 53, 51, 51, 51, 51, 52, 51, 51, 51, 51, 51, 51, 51, 51, 51, 51, 51, 52, 53, 52, 51, 51, 51, 51, 51, 51, 51, 51, 51, 53, 53, 51, 51, 52, 51, 53, 52, 52, 51]
def lnL : List Int := [0, 18, 2, 900, 11, 6, 21, 901, 901, 901, 2, 21, 64, 12, 96, 96, 96, 96, 96, 96, 96, 2, 40, 9, 9, 9, 9, 9, 9, 9, 9, 9, 9, 9, 9, 9, 9, 9, 9, 9, 9, 9, 9, 9, 9, 9, 9, 9, 9, 9, 9, 9, 9, 9, 9, 9, 9, 9, 9, 9, 9, 9, 9, 4, 96, 8, 8, 1, 3, 7, 40, 5, 900, 10, 10, 10, 10, 10, 10, 10, 10, 10, 10, 10, 10, 10, 10, 10, 10, 10, 10, 10, 10, 10, 10, 10, 10, 10, 10, 10, 10, 10, 10, 10, 10, 10, 10, 10, 10, 10, 10, 10, 10, 7, 40, 5, 900, 10, 10, 10, 10, 10, 10, 10, 10, 10, 10, 10, 10, 10, 10, 10, 10, 10, 10, 10, 10, 10, 10, 10, 10, 10, 10, 10, 10, 10, 10, 10, 10, 10, 10, 10, 10, 10, 10, 10, 10, 7, 40, 5, 900, 10, 10, 10, 10, 10, 10, 10, 10, 10, 10, 10, 10, 10, 10, 10, 10, 10, 10, 10, 10, 10, 10, 10, 10, 10, 10, 10, 10, 10, 10, 10, 10, 10, 10, 10, 10, 10, 10, 10, 10, 40, 322, 41, 40, 7, 40, 5, 900, 10, 10, 10, 10, 10, 10, 10, 10, 10, 10, 10, 10, 10, 10, 10, 10, 10, 10, 10, 10, 10, 10, 10, 10, 10, 10, 10, 10, 10, 10, 10, 10, 10, 10, 10, 10, 10, 10, 10, 10, 7, 40, 5, 900, 10, 10, 10, 10, 10, 10, 10, 10, 10, 10, 10, 10, 10, 10, 10, 10, 10, 10, 10, 10, 10, 10, 10, 10, 10, 10, 10, 10, 10, 10, 10, 10, 10, 10, 10, 10, 10, 10, 10, 10, 7, 40, 5, 900, 10, 10, 10, 10, 10, 10, 10, 10, 10, 10, 10, 10, 10, 10, 10, 10, 10, 10, 10, 10, 10, 10, 10, 10, 10, 10, 10, 10, 10, 10, 10, 10, 10, 10, 10, 10, 10, 10, 10, 10, 96, 900, 5, 4, 5, 3, 5, 5, 4, 4, 5, 4, 2, 3, 3, 3, 6, 3, 6, 5, 4, 3, 3, 5400, 1000, 5, 200, 200, 200, 5, 25, 25, 25, 25, 25, 2, 10, 10, 2, 2, 160, 160, 160, 160, 160, 160, 8, 8, 8, 3, 1000, 96, 96, 96, 96, 40, 40, 40, 40, 40, 40, 40, 40, 40, 42, 40, 96, 8, 8, 330]
def kd (a : Int) : Nat := kdL.getD a.toNat 0
def ln (a : Int) : Int := lnL.getD a.toNat 0
def fxl0 : List (Int × Int × Int) := [(2, 0, 3), (1, 0, 2), (5, 1, 6), (5, 2, 7), (5, 3, 8), (5, 4, 9), (5, 0, 2), (4, 0, 5), (1, 1, 4), (10, 0, 11), (10, 1, 12), (1, 2, 10), (13, 0, 14), (13, 1, 15), (13, 2, 16), (13, 3, 17), (13, 4, 18), (13, 5, 19), (13, 6, 20), (1, 3, 13), (21, 0, 22), (22, 0, 23), (22, 1, 24), (22, 2, 25), (22, 3, 26), (22, 4, 27), (22, 5, 28), (22, 6, 29), (22, 7, 30), (22, 8, 31), (22, 9, 32), (22, 10, 33), (22, 11, 34), (22, 12, 35), (22, 13, 36), (22, 14, 37), (22, 15, 38), (22, 16, 39), (22, 17, 40), (22, 18, 41), (22, 19, 42), (22, 20, 43), (22, 21, 44), (22, 22, 45), (22, 23, 46), (22, 24, 47), (22, 25, 48), (22, 26, 49), (22, 27, 50), (22, 28, 51), (22, 29, 52), (22, 30, 53), (22, 31, 54), (22, 32, 55), (22, 33, 56), (22, 34, 57), (22, 35, 58), (22, 36, 59), (22, 37, 60), (22, 38, 61), (22, 39, 62), (1, 4, 21), (63, 0, 64), (63, 1, 65), (63, 2, 66), (1, 5, 63), (1, 6, 67), (1, 7, 68), (69, 0, 70), (69, 2, 71), (69, 4, 72), (70, 0, 73), (70, 1, 74), (70, 2, 75), (70, 3, 76), (70, 4, 77), (70, 5, 78), (70, 6, 79), (70, 7, 80), (70, 8, 81), (70, 9, 82), (70, 10, 83), (70, 11, 84), (70, 12, 85), (70, 13, 86), (70, 14, 87), (70, 15, 88), (70, 16, 89), (70, 17, 90), (70, 18, 91), (70, 19, 92), (70, 20, 93), (70, 21, 94), (70, 22, 95), (70, 23, 96), (70, 24, 97), (70, 25, 98), (70, 26, 99), (70, 27, 100), (70, 28, 101)]
def fxl1 : List (Int × Int × Int) := [(70, 29, 102), (70, 30, 103), (70, 31, 104), (70, 32, 105), (70, 33, 106), (70, 34, 107), (70, 35, 108), (70, 36, 109), (70, 37, 110), (70, 38, 111), (70, 39, 112), (113, 0, 114), (113, 2, 115), (113, 4, 116), (114, 0, 117), (114, 1, 118), (114, 2, 119), (114, 3, 120), (114, 4, 121), (114, 5, 122), (114, 6, 123), (114, 7, 124), (114, 8, 125), (114, 9, 126), (114, 10, 127), (114, 11, 128), (114, 12, 129), (114, 13, 130), (114, 14, 131), (114, 15, 132), (114, 16, 133), (114, 17, 134), (114, 18, 135), (114, 19, 136), (114, 20, 137), (114, 21, 138), (114, 22, 139), (114, 23, 140), (114, 24, 141), (114, 25, 142), (114, 26, 143), (114, 27, 144), (114, 28, 145), (114, 29, 146), (114, 30, 147), (114, 31, 148), (114, 32, 149), (114, 33, 150), (114, 34, 151), (114, 35, 152), (114, 36, 153), (114, 37, 154), (114, 38, 155), (114, 39, 156), (157, 0, 158), (157, 2, 159), (157, 4, 160), (158, 0, 161), (158, 1, 162), (158, 2, 163), (158, 3, 164), (158, 4, 165), (158, 5, 166), (158, 6, 167), (158, 7, 168), (158, 8, 169), (158, 9, 170), (158, 10, 171), (158, 11, 172), (158, 12, 173), (158, 13, 174), (158, 14, 175), (158, 15, 176), (158, 16, 177), (158, 17, 178), (158, 18, 179), (158, 19, 180), (158, 20, 181), (158, 21, 182), (158, 22, 183), (158, 23, 184), (158, 24, 185), (158, 25, 186), (158, 26, 187), (158, 27, 188), (158, 28, 189), (158, 29, 190), (158, 30, 191), (158, 31, 192), (158, 32, 193), (158, 33, 194), (158, 34, 195), (158, 35, 196), (158, 36, 197), (158, 37, 198), (158, 38, 199), (158, 39, 200), (1, 11, 201), (1, 14, 202), (1, 16, 203)]
def fxl2 : List (Int × Int × Int) := [(1, 17, 204), (205, 0, 206), (205, 2, 207), (205, 4, 208), (206, 0, 209), (206, 1, 210), (206, 2, 211), (206, 3, 212), (206, 4, 213), (206, 5, 214), (206, 6, 215), (206, 7, 216), (206, 8, 217), (206, 9, 218), (206, 10, 219), (206, 11, 220), (206, 12, 221), (206, 13, 222), (206, 14, 223), (206, 15, 224), (206, 16, 225), (206, 17, 226), (206, 18, 227), (206, 19, 228), (206, 20, 229), (206, 21, 230), (206, 22, 231), (206, 23, 232), (206, 24, 233), (206, 25, 234), (206, 26, 235), (206, 27, 236), (206, 28, 237), (206, 29, 238), (206, 30, 239), (206, 31, 240), (206, 32, 241), (206, 33, 242), (206, 34, 243), (206, 35, 244), (206, 36, 245), (206, 37, 246), (206, 38, 247), (206, 39, 248), (249, 0, 250), (249, 2, 251), (249, 4, 252), (250, 0, 253), (250, 1, 254), (250, 2, 255), (250, 3, 256), (250, 4, 257), (250, 5, 258), (250, 6, 259), (250, 7, 260), (250, 8, 261), (250, 9, 262), (250, 10, 263), (250, 11, 264), (250, 12, 265), (250, 13, 266), (250, 14, 267), (250, 15, 268), (250, 16, 269), (250, 17, 270), (250, 18, 271), (250, 19, 272), (250, 20, 273), (250, 21, 274), (250, 22, 275), (250, 23, 276), (250, 24, 277), (250, 25, 278), (250, 26, 279), (250, 27, 280), (250, 28, 281), (250, 29, 282), (250, 30, 283), (250, 31, 284), (250, 32, 285), (250, 33, 286), (250, 34, 287), (250, 35, 288), (250, 36, 289), (250, 37, 290), (250, 38, 291), (250, 39, 292), (293, 0, 294), (293, 2, 295), (293, 4, 296), (294, 0, 297), (294, 1, 298), (294, 2, 299), (294, 3, 300), (294, 4, 301), (294, 5, 302), (294, 6, 303), (294, 7, 304), (294, 8, 305), (294, 9, 306)]
def fxl3 : List (Int × Int × Int) := [(294, 10, 307), (294, 11, 308), (294, 12, 309), (294, 13, 310), (294, 14, 311), (294, 15, 312), (294, 16, 313), (294, 17, 314), (294, 18, 315), (294, 19, 316), (294, 20, 317), (294, 21, 318), (294, 22, 319), (294, 23, 320), (294, 24, 321), (294, 25, 322), (294, 26, 323), (294, 27, 324), (294, 28, 325), (294, 29, 326), (294, 30, 327), (294, 31, 328), (294, 32, 329), (294, 33, 330), (294, 34, 331), (294, 35, 332), (294, 36, 333), (294, 37, 334), (294, 38, 335), (294, 39, 336), (337, 0, 338), (337, 9, 339), (337, 10, 340), (337, 11, 341), (337, 12, 342), (337, 13, 343), (337, 14, 344), (337, 15, 345), (337, 16, 346), (337, 17, 347), (337, 18, 348), (337, 19, 349), (337, 20, 350), (337, 21, 351), (337, 22, 352), (337, 23, 353), (337, 24, 354), (337, 25, 355), (337, 26, 356), (337, 27, 357), (337, 28, 358), (337, 29, 359), (337, 31, 360), (337, 33, 361), (337, 37, 362), (337, 38, 363), (337, 39, 364), (337, 40, 365), (337, 41, 366), (337, 42, 367), (337, 43, 368), (337, 44, 369), (337, 45, 370), (337, 46, 371), (337, 47, 372), (337, 48, 373), (337, 49, 374), (337, 50, 375), (337, 53, 376), (337, 54, 377), (337, 55, 378), (337, 56, 379), (337, 57, 380), (337, 58, 381), (337, 59, 382), (337, 61, 383), (337, 62, 384), (337, 63, 385), (337, 65, 386), (337, 66, 387), (337, 74, 388), (337, 75, 389), (337, 76, 390), (337, 77, 391), (337, 80, 392), (337, 81, 393), (337, 82, 394), (337, 83, 395), (337, 84, 396), (337, 85, 397), (337, 86, 398), (337, 87, 399), (337, 88, 400), (337, 89, 401), (337, 90, 402), (337, 91, 403), (337, 92, 404), (337, 93, 405), (337, 94, 406), (339, 0, 115)]
def fxl4 : List (Int × Int × Int) := [(339, 1, 105), (339, 2, 103), (339, 3, 104), (339, 4, 116), (340, 0, 100), (340, 1, 105), (340, 2, 115), (340, 3, 99), (341, 0, 116), (341, 1, 104), (341, 2, 105), (341, 3, 110), (341, 4, 103), (342, 0, 119), (342, 1, 97), (342, 2, 121), (343, 0, 107), (343, 1, 110), (343, 2, 111), (343, 3, 119), (343, 4, 115), (344, 0, 98), (344, 1, 108), (344, 2, 105), (344, 3, 110), (344, 4, 100), (345, 0, 108), (345, 1, 105), (345, 2, 110), (345, 3, 101), (346, 0, 115), (346, 1, 104), (346, 2, 111), (346, 3, 119), (347, 0, 116), (347, 1, 105), (347, 2, 109), (347, 3, 101), (347, 4, 115), (348, 0, 119), (348, 1, 104), (348, 2, 101), (348, 3, 110), (349, 0, 111), (349, 1, 114), (350, 0, 97), (350, 1, 110), (350, 2, 100), (351, 0, 110), (351, 1, 111), (351, 2, 116), (352, 0, 97), (352, 1, 108), (352, 2, 108), (353, 0, 99), (353, 1, 111), (353, 2, 108), (353, 3, 117), (353, 4, 109), (353, 5, 110), (354, 0, 114), (354, 1, 111), (354, 2, 119), (355, 0, 98), (355, 1, 114), (355, 2, 105), (355, 3, 103), (355, 4, 104), (355, 5, 116), (356, 0, 108), (356, 1, 105), (356, 2, 103), (356, 3, 104), (356, 4, 116), (357, 0, 107), (357, 1, 105), (357, 2, 110), (357, 3, 100), (358, 0, 109), (358, 1, 105), (358, 2, 110), (359, 0, 109), (359, 1, 97), (359, 2, 120), (6, 0, 277556355), (6, 1, 62554761), (6, 2, 291417210), (6, 3, 331048377), (6, 4, 165590676), (6, 5, 35262567), (6, 6, 177249060), (6, 7, 277192773), (6, 8, 292021146), (6, 9, 334385010), (6, 10, 224799543), (6, 11, 21867813), (6, 12, 209249973), (6, 13, 20962395), (6, 14, 51270206), (6, 15, 266704650)]
def fxl5 : List (Int × Int × Int) := [(6, 16, 38446238), (6, 17, 177114006), (6, 18, 162899424), (6, 19, 191594322), (6, 20, 187539624)]
def fxl : List (Int × Int × Int) := fxl0 ++ fxl1 ++ fxl2 ++ fxl3 ++ fxl4 ++ fxl5
def ftL : List (List Nat) := [[2, 0], [2, 2, 2, 0], [1], [2, 2, 2, 2, 2, 2, 2, 0, 0, 0, 0, 0], [2, 2, 2, 2, 2, 0], [2, 2, 2, 0, 0, 0, 0, 0, 0, 0, 0], [2, 2], [2, 0, 2, 0, 2, 0, 0], [0, 0, 0, 0, 0, 0, 0, 0, 0, 0], [2, 0], [0, 0, 0, 0, 0, 0, 0, 0, 0], [2, 2, 2, 2, 2, 2, 2, 2, 2, 2, 2, 2, 0, 0, 2, 0, 2, 2], [2, 0, 0, 0, 0, 0, 0, 0, 0, 2, 2, 2, 2, 2, 2, 2, 2, 2, 2, 2, 2, 2, 2, 2, 2, 2, 2, 2, 2, 2, 0, 2, 0, 2, 0, 0, 0, 2, 2, 2, 2, 2, 2, 2, 2, 2, 2, 2, 2, 2, 2, 0, 0, 2, 2, 2, 2, 2, 2, 2, 0, 2, 2, 2, 1, 2, 2, 0, 0, 0, 0, 0, 0, 0, 2, 2, 2, 2, 0, 0, 2, 2, 2, 2, 2, 2, 2, 2, 2, 2, 2, 2, 2, 2, 2, 0]]
def ft (c k : Nat) : Nat := (ftL.getD c []).getD k 2
def fxk (c : Nat) (k : Int) : Bool := (c == 6 || c == 7 || c == 8 || c == 54) || (c == 10 && (k == 0)) || (c == 11 && (k == 0 || k == 1 || k == 2)) || (c == 13 && (k == 0 || k == 1 || k == 2 || k == 3 || k == 4 || k == 5 || k == 6)) || (c == 14 && (k == 0 || k == 1 || k == 2 || k == 3 || k == 4)) || (c == 15 && (k == 0)) || (c == 16 && (k == 0 || k == 1)) || (c == 17 && (k == 0 || k == 2 || k == 4)) || (c == 19 && (k == 0)) || (c == 21 && (k == 0 || k == 1 || k == 2 || k == 3 || k == 4 || k == 5 || k == 6 || k == 7 || k == 11 || k == 14 || k == 16 || k == 17))
  || (c == 72 && (k == 0 || k == 9 || k == 10 || k == 11 || k == 12 || k == 13 || k == 14 || k == 15 || k == 16 || k == 17 || k == 18 || k == 19 || k == 20 || k == 21 || k == 22 || k == 23 || k == 24 || k == 25 || k == 26 || k == 27 || k == 28 || k == 29 || k == 31 || k == 33 || k == 37 || k == 38 || k == 39 || k == 40 || k == 41 || k == 42 || k == 43 || k == 44 || k == 45 || k == 46 || k == 47 || k == 48 || k == 49 || k == 50 || k == 53 || k == 54 || k == 55 || k == 56 || k == 57 || k == 58 || k == 59 || k == 61 || k == 62 || k == 63 || k == 65 || k == 66 || k == 74 || k == 75 || k == 76 || k == 77 || k == 80 || k == 81 || k == 82 || k == 83 || k == 84 || k == 85 || k == 86 || k == 87 || k == 88 || k == 89 || k == 90 || k == 91 || k == 92 || k == 93 || k == 94))
theorem fxl_k : fxl.all (fun t => fxk (kd t.1) t.2.1) = true := by decide +kernel
theorem kd_nat (k : Nat) : kd (k : Int) = kdL.getD k 0 := by simp [kd]
theorem kd_pos {a : Int} (h : kd a ≠ 0) : 1 ≤ a ∧ a ≤ 406 := by
  rcases Int.lt_or_le 0 a with h0 | h0
  · refine ⟨by omega, ?_⟩
    rcases Int.lt_or_le 406 a with h1 | h1
    · exfalso; apply h; unfold kd
      rw [List.getD_eq_getElem?_getD, List.getElem?_eq_none]
      · rfl
      · show kdL.length ≤ a.toNat
        have : kdL.length = 407 := by decide +kernel
        omega
    · exact h1
  · exfalso; apply h
    have : a.toNat = 0 := by omega
    unfold kd; rw [this]; rfl
theorem kd_all {P : Int → Prop} (c : Nat) (hc : c ≠ 0) (h : ∀ k : Nat, k < 407 → kdL.getD k 0 = c → P k) : ∀ a, kd a = c → P a := by
  intro a ha
  obtain ⟨h1, h2⟩ := kd_pos (a := a) (by rw [ha]; exact hc)
  obtain ⟨k, rfl⟩ : ∃ k : Nat, a = k := ⟨a.toNat, by omega⟩
  exact h k (by omega) (by rw [← kd_nat]; exact ha)
theorem kd_side : ∀ k : Nat, k < 407 → kdL.getD k 0 ≠ 0 → (decide (kdL.getD k 0 < 50) = decide (k ≤ 336)) := by decide +kernel
theorem kd_own {a : Int} {c : Nat} (h : kd a = c) (hc : c ≠ 0) : decide (c < 50) = decide (a ≤ 336) := by
  obtain ⟨h1, h2⟩ := kd_pos (a := a) (by rw [h]; exact hc)
  have e : a = ((a.toNat : Nat) : Int) := by omega
  have q := kd_side a.toNat (by omega) (by rw [← kd_nat, ← e, h]; exact hc)
  rw [← kd_nat, ← e, h] at q
  rw [q]; congr 1; apply propext; omega
theorem kd_1 : kd 1 = 21 := by decide +kernel
theorem kd_2 : kd 2 = 19 := by decide +kernel
theorem kd_3 : kd 3 = 1 := by decide +kernel
theorem ln_3 : ln 3 = 900 := by decide +kernel
theorem kd_4 : kd 4 = 15 := by decide +kernel
theorem kd_5 : kd 5 = 14 := by decide +kernel
theorem kd_6 : kd 6 = 8 := by decide +kernel
theorem ln_6 : ln 6 = 21 := by decide +kernel
theorem kd_7 : kd 7 = 1 := by decide +kernel
theorem ln_7 : ln 7 = 901 := by decide +kernel
theorem kd_8 : kd 8 = 1 := by decide +kernel
theorem ln_8 : ln 8 = 901 := by decide +kernel
theorem kd_9 : kd 9 = 1 := by decide +kernel
theorem ln_9 : ln 9 = 901 := by decide +kernel
theorem kd_10 : kd 10 = 16 := by decide +kernel
theorem kd_11 : kd 11 = 1 := by decide +kernel
theorem ln_11 : ln 11 = 21 := by decide +kernel
theorem kd_12 : kd 12 = 1 := by decide +kernel
theorem ln_12 : ln 12 = 64 := by decide +kernel
theorem kd_13 : kd 13 = 13 := by decide +kernel
theorem kd_14 : kd 14 = 1 := by decide +kernel
theorem ln_14 : ln 14 = 96 := by decide +kernel
theorem kd_15 : kd 15 = 1 := by decide +kernel
theorem ln_15 : ln 15 = 96 := by decide +kernel
theorem kd_16 : kd 16 = 1 := by decide +kernel
theorem ln_16 : ln 16 = 96 := by decide +kernel
theorem kd_17 : kd 17 = 1 := by decide +kernel
theorem ln_17 : ln 17 = 96 := by decide +kernel
theorem kd_18 : kd 18 = 1 := by decide +kernel
theorem ln_18 : ln 18 = 96 := by decide +kernel
theorem kd_19 : kd 19 = 1 := by decide +kernel
theorem ln_19 : ln 19 = 96 := by decide +kernel
theorem kd_20 : kd 20 = 1 := by decide +kernel
theorem ln_20 : ln 20 = 96 := by decide +kernel
theorem kd_21 : kd 21 = 10 := by decide +kernel
theorem kd_22 : kd 22 = 7 := by decide +kernel
theorem ln_22 : ln 22 = 40 := by decide +kernel
theorem kd_63 : kd 63 = 11 := by decide +kernel
theorem kd_64 : kd 64 = 3 := by decide +kernel
theorem ln_64 : ln 64 = 96 := by decide +kernel
theorem kd_65 : kd 65 = 2 := by decide +kernel
theorem ln_65 : ln 65 = 8 := by decide +kernel
theorem kd_66 : kd 66 = 2 := by decide +kernel
theorem ln_66 : ln 66 = 8 := by decide +kernel
theorem kd_67 : kd 67 = 12 := by decide +kernel
theorem kd_68 : kd 68 = 5 := by decide +kernel
theorem ln_68 : ln 68 = 3 := by decide +kernel
theorem kd_69 : kd 69 = 17 := by decide +kernel
theorem kd_70 : kd 70 = 6 := by decide +kernel
theorem ln_70 : ln 70 = 40 := by decide +kernel
theorem kd_71 : kd 71 = 1 := by decide +kernel
theorem ln_71 : ln 71 = 5 := by decide +kernel
theorem kd_72 : kd 72 = 1 := by decide +kernel
theorem ln_72 : ln 72 = 900 := by decide +kernel
theorem kd_113 : kd 113 = 17 := by decide +kernel
theorem kd_114 : kd 114 = 6 := by decide +kernel
theorem ln_114 : ln 114 = 40 := by decide +kernel
theorem kd_115 : kd 115 = 1 := by decide +kernel
theorem ln_115 : ln 115 = 5 := by decide +kernel
theorem kd_116 : kd 116 = 1 := by decide +kernel
theorem ln_116 : ln 116 = 900 := by decide +kernel
theorem kd_157 : kd 157 = 17 := by decide +kernel
theorem kd_158 : kd 158 = 6 := by decide +kernel
theorem ln_158 : ln 158 = 40 := by decide +kernel
theorem kd_159 : kd 159 = 1 := by decide +kernel
theorem ln_159 : ln 159 = 5 := by decide +kernel
theorem kd_160 : kd 160 = 1 := by decide +kernel
theorem ln_160 : ln 160 = 900 := by decide +kernel
theorem kd_201 : kd 201 = 1 := by decide +kernel
theorem ln_201 : ln 201 = 40 := by decide +kernel
theorem kd_202 : kd 202 = 1 := by decide +kernel
theorem ln_202 : ln 202 = 322 := by decide +kernel
theorem kd_203 : kd 203 = 2 := by decide +kernel
theorem ln_203 : ln 203 = 41 := by decide +kernel
theorem kd_204 : kd 204 = 1 := by decide +kernel
theorem ln_204 : ln 204 = 40 := by decide +kernel
theorem kd_205 : kd 205 = 17 := by decide +kernel
theorem kd_206 : kd 206 = 6 := by decide +kernel
theorem ln_206 : ln 206 = 40 := by decide +kernel
theorem kd_207 : kd 207 = 1 := by decide +kernel
theorem ln_207 : ln 207 = 5 := by decide +kernel
theorem kd_208 : kd 208 = 1 := by decide +kernel
theorem ln_208 : ln 208 = 900 := by decide +kernel
theorem kd_249 : kd 249 = 17 := by decide +kernel
theorem kd_250 : kd 250 = 6 := by decide +kernel
theorem ln_250 : ln 250 = 40 := by decide +kernel
theorem kd_251 : kd 251 = 1 := by decide +kernel
theorem ln_251 : ln 251 = 5 := by decide +kernel
theorem kd_252 : kd 252 = 1 := by decide +kernel
theorem ln_252 : ln 252 = 900 := by decide +kernel
theorem kd_293 : kd 293 = 17 := by decide +kernel
theorem kd_294 : kd 294 = 6 := by decide +kernel
theorem ln_294 : ln 294 = 40 := by decide +kernel
theorem kd_295 : kd 295 = 1 := by decide +kernel
theorem ln_295 : ln 295 = 5 := by decide +kernel
theorem kd_296 : kd 296 = 1 := by decide +kernel
theorem ln_296 : ln 296 = 900 := by decide +kernel
theorem kd_337 : kd 337 = 72 := by decide +kernel
theorem kd_338 : kd 338 = 51 := by decide +kernel
theorem ln_338 : ln 338 = 900 := by decide +kernel
theorem kd_339 : kd 339 = 54 := by decide +kernel
theorem ln_339 : ln 339 = 5 := by decide +kernel
theorem kd_340 : kd 340 = 54 := by decide +kernel
theorem ln_340 : ln 340 = 4 := by decide +kernel
theorem kd_341 : kd 341 = 54 := by decide +kernel
theorem ln_341 : ln 341 = 5 := by decide +kernel
theorem kd_342 : kd 342 = 54 := by decide +kernel
theorem ln_342 : ln 342 = 3 := by decide +kernel
theorem kd_343 : kd 343 = 54 := by decide +kernel
theorem ln_343 : ln 343 = 5 := by decide +kernel
theorem kd_344 : kd 344 = 54 := by decide +kernel
theorem ln_344 : ln 344 = 5 := by decide +kernel
theorem kd_345 : kd 345 = 54 := by decide +kernel
theorem ln_345 : ln 345 = 4 := by decide +kernel
theorem kd_346 : kd 346 = 54 := by decide +kernel
theorem ln_346 : ln 346 = 4 := by decide +kernel
theorem kd_347 : kd 347 = 54 := by decide +kernel
theorem ln_347 : ln 347 = 5 := by decide +kernel
theorem kd_348 : kd 348 = 54 := by decide +kernel
theorem ln_348 : ln 348 = 4 := by decide +kernel
theorem kd_349 : kd 349 = 54 := by decide +kernel
theorem ln_349 : ln 349 = 2 := by decide +kernel
theorem kd_350 : kd 350 = 54 := by decide +kernel
theorem ln_350 : ln 350 = 3 := by decide +kernel
theorem kd_351 : kd 351 = 54 := by decide +kernel
theorem ln_351 : ln 351 = 3 := by decide +kernel
theorem kd_352 : kd 352 = 54 := by decide +kernel
theorem ln_352 : ln 352 = 3 := by decide +kernel
theorem kd_353 : kd 353 = 54 := by decide +kernel
theorem ln_353 : ln 353 = 6 := by decide +kernel
theorem kd_354 : kd 354 = 54 := by decide +kernel
theorem ln_354 : ln 354 = 3 := by decide +kernel
theorem kd_355 : kd 355 = 54 := by decide +kernel
theorem ln_355 : ln 355 = 6 := by decide +kernel
theorem kd_356 : kd 356 = 54 := by decide +kernel
theorem ln_356 : ln 356 = 5 := by decide +kernel
theorem kd_357 : kd 357 = 54 := by decide +kernel
theorem ln_357 : ln 357 = 4 := by decide +kernel
theorem kd_358 : kd 358 = 54 := by decide +kernel
theorem ln_358 : ln 358 = 3 := by decide +kernel
theorem kd_359 : kd 359 = 54 := by decide +kernel
theorem ln_359 : ln 359 = 3 := by decide +kernel
theorem kd_360 : kd 360 = 51 := by decide +kernel
theorem ln_360 : ln 360 = 5400 := by decide +kernel
theorem kd_361 : kd 361 = 51 := by decide +kernel
theorem ln_361 : ln 361 = 1000 := by decide +kernel
theorem kd_362 : kd 362 = 51 := by decide +kernel
theorem ln_362 : ln 362 = 5 := by decide +kernel
theorem kd_363 : kd 363 = 51 := by decide +kernel
theorem ln_363 : ln 363 = 200 := by decide +kernel
theorem kd_364 : kd 364 = 51 := by decide +kernel
theorem ln_364 : ln 364 = 200 := by decide +kernel
theorem kd_365 : kd 365 = 51 := by decide +kernel
theorem ln_365 : ln 365 = 200 := by decide +kernel
theorem kd_366 : kd 366 = 51 := by decide +kernel
theorem ln_366 : ln 366 = 5 := by decide +kernel
theorem kd_367 : kd 367 = 52 := by decide +kernel
theorem ln_367 : ln 367 = 25 := by decide +kernel
theorem kd_368 : kd 368 = 53 := by decide +kernel
theorem ln_368 : ln 368 = 25 := by decide +kernel
theorem kd_369 : kd 369 = 51 := by decide +kernel
theorem ln_369 : ln 369 = 25 := by decide +kernel
theorem kd_370 : kd 370 = 51 := by decide +kernel
theorem ln_370 : ln 370 = 25 := by decide +kernel
theorem kd_371 : kd 371 = 51 := by decide +kernel
theorem ln_371 : ln 371 = 25 := by decide +kernel
theorem kd_372 : kd 372 = 51 := by decide +kernel
theorem ln_372 : ln 372 = 2 := by decide +kernel
theorem kd_373 : kd 373 = 52 := by decide +kernel
theorem ln_373 : ln 373 = 10 := by decide +kernel
theorem kd_374 : kd 374 = 51 := by decide +kernel
theorem ln_374 : ln 374 = 10 := by decide +kernel
theorem kd_375 : kd 375 = 51 := by decide +kernel
theorem ln_375 : ln 375 = 2 := by decide +kernel
theorem kd_376 : kd 376 = 51 := by decide +kernel
theorem ln_376 : ln 376 = 2 := by decide +kernel
theorem kd_377 : kd 377 = 51 := by decide +kernel
theorem ln_377 : ln 377 = 160 := by decide +kernel
theorem kd_378 : kd 378 = 51 := by decide +kernel
theorem ln_378 : ln 378 = 160 := by decide +kernel
theorem kd_379 : kd 379 = 51 := by decide +kernel
theorem ln_379 : ln 379 = 160 := by decide +kernel
theorem kd_380 : kd 380 = 51 := by decide +kernel
theorem ln_380 : ln 380 = 160 := by decide +kernel
theorem kd_381 : kd 381 = 51 := by decide +kernel
theorem ln_381 : ln 381 = 160 := by decide +kernel
theorem kd_382 : kd 382 = 51 := by decide +kernel
theorem ln_382 : ln 382 = 160 := by decide +kernel
theorem kd_383 : kd 383 = 51 := by decide +kernel
theorem ln_383 : ln 383 = 8 := by decide +kernel
theorem kd_384 : kd 384 = 51 := by decide +kernel
theorem ln_384 : ln 384 = 8 := by decide +kernel
theorem kd_385 : kd 385 = 52 := by decide +kernel
theorem ln_385 : ln 385 = 8 := by decide +kernel
theorem kd_386 : kd 386 = 53 := by decide +kernel
theorem ln_386 : ln 386 = 3 := by decide +kernel
theorem kd_387 : kd 387 = 52 := by decide +kernel
theorem ln_387 : ln 387 = 1000 := by decide +kernel
theorem kd_388 : kd 388 = 51 := by decide +kernel
theorem ln_388 : ln 388 = 96 := by decide +kernel
theorem kd_389 : kd 389 = 51 := by decide +kernel
theorem ln_389 : ln 389 = 96 := by decide +kernel
theorem kd_390 : kd 390 = 51 := by decide +kernel
theorem ln_390 : ln 390 = 96 := by decide +kernel
theorem kd_391 : kd 391 = 51 := by decide +kernel
theorem ln_391 : ln 391 = 96 := by decide +kernel
theorem kd_392 : kd 392 = 51 := by decide +kernel
theorem ln_392 : ln 392 = 40 := by decide +kernel
theorem kd_393 : kd 393 = 51 := by decide +kernel
theorem ln_393 : ln 393 = 40 := by decide +kernel
theorem kd_394 : kd 394 = 51 := by decide +kernel
theorem ln_394 : ln 394 = 40 := by decide +kernel
theorem kd_395 : kd 395 = 51 := by decide +kernel
theorem ln_395 : ln 395 = 40 := by decide +kernel
theorem kd_396 : kd 396 = 51 := by decide +kernel
theorem ln_396 : ln 396 = 40 := by decide +kernel
theorem kd_397 : kd 397 = 53 := by decide +kernel
theorem ln_397 : ln 397 = 40 := by decide +kernel
theorem kd_398 : kd 398 = 53 := by decide +kernel
theorem ln_398 : ln 398 = 40 := by decide +kernel
theorem kd_399 : kd 399 = 51 := by decide +kernel
theorem ln_399 : ln 399 = 40 := by decide +kernel
theorem kd_400 : kd 400 = 51 := by decide +kernel
theorem ln_400 : ln 400 = 40 := by decide +kernel
theorem kd_401 : kd 401 = 52 := by decide +kernel
theorem ln_401 : ln 401 = 42 := by decide +kernel
theorem kd_402 : kd 402 = 51 := by decide +kernel
theorem ln_402 : ln 402 = 40 := by decide +kernel
theorem kd_403 : kd 403 = 53 := by decide +kernel
theorem ln_403 : ln 403 = 96 := by decide +kernel
theorem kd_404 : kd 404 = 52 := by decide +kernel
theorem ln_404 : ln 404 = 8 := by decide +kernel
theorem kd_405 : kd 405 = 52 := by decide +kernel
theorem ln_405 : ln 405 = 8 := by decide +kernel
theorem kd_406 : kd 406 = 51 := by decide +kernel
theorem ln_406 : ln 406 = 330 := by decide +kernel
theorem fx_2_0 : ((2, 0, 3) : Int × Int × Int) ∈ fxl := by decide +kernel
theorem fx_1_0 : ((1, 0, 2) : Int × Int × Int) ∈ fxl := by decide +kernel
theorem fx_5_1 : ((5, 1, 6) : Int × Int × Int) ∈ fxl := by decide +kernel
theorem fx_5_2 : ((5, 2, 7) : Int × Int × Int) ∈ fxl := by decide +kernel
theorem fx_5_3 : ((5, 3, 8) : Int × Int × Int) ∈ fxl := by decide +kernel
theorem fx_5_4 : ((5, 4, 9) : Int × Int × Int) ∈ fxl := by decide +kernel
theorem fx_5_0 : ((5, 0, 2) : Int × Int × Int) ∈ fxl := by decide +kernel
theorem fx_4_0 : ((4, 0, 5) : Int × Int × Int) ∈ fxl := by decide +kernel
theorem fx_1_1 : ((1, 1, 4) : Int × Int × Int) ∈ fxl := by decide +kernel
theorem fx_10_0 : ((10, 0, 11) : Int × Int × Int) ∈ fxl := by decide +kernel
theorem fx_10_1 : ((10, 1, 12) : Int × Int × Int) ∈ fxl := by decide +kernel
theorem fx_1_2 : ((1, 2, 10) : Int × Int × Int) ∈ fxl := by decide +kernel
theorem fx_13_0 : ((13, 0, 14) : Int × Int × Int) ∈ fxl := by decide +kernel
theorem fx_13_1 : ((13, 1, 15) : Int × Int × Int) ∈ fxl := by decide +kernel
theorem fx_13_2 : ((13, 2, 16) : Int × Int × Int) ∈ fxl := by decide +kernel
theorem fx_13_3 : ((13, 3, 17) : Int × Int × Int) ∈ fxl := by decide +kernel
theorem fx_13_4 : ((13, 4, 18) : Int × Int × Int) ∈ fxl := by decide +kernel
theorem fx_13_5 : ((13, 5, 19) : Int × Int × Int) ∈ fxl := by decide +kernel
theorem fx_13_6 : ((13, 6, 20) : Int × Int × Int) ∈ fxl := by decide +kernel
theorem fx_1_3 : ((1, 3, 13) : Int × Int × Int) ∈ fxl := by decide +kernel
theorem fx_21_0 : ((21, 0, 22) : Int × Int × Int) ∈ fxl := by decide +kernel
theorem fx_1_4 : ((1, 4, 21) : Int × Int × Int) ∈ fxl := by decide +kernel
theorem fx_63_0 : ((63, 0, 64) : Int × Int × Int) ∈ fxl := by decide +kernel
theorem fx_63_1 : ((63, 1, 65) : Int × Int × Int) ∈ fxl := by decide +kernel
theorem fx_63_2 : ((63, 2, 66) : Int × Int × Int) ∈ fxl := by decide +kernel
theorem fx_1_5 : ((1, 5, 63) : Int × Int × Int) ∈ fxl := by decide +kernel
theorem fx_1_6 : ((1, 6, 67) : Int × Int × Int) ∈ fxl := by decide +kernel
theorem fx_1_7 : ((1, 7, 68) : Int × Int × Int) ∈ fxl := by decide +kernel
theorem fx_1_11 : ((1, 11, 201) : Int × Int × Int) ∈ fxl := by decide +kernel
theorem fx_1_14 : ((1, 14, 202) : Int × Int × Int) ∈ fxl := by decide +kernel
theorem fx_1_16 : ((1, 16, 203) : Int × Int × Int) ∈ fxl := by decide +kernel
theorem fx_1_17 : ((1, 17, 204) : Int × Int × Int) ∈ fxl := by decide +kernel
theorem fx_337_0 : ((337, 0, 338) : Int × Int × Int) ∈ fxl := by decide +kernel
theorem fx_337_9 : ((337, 9, 339) : Int × Int × Int) ∈ fxl := by decide +kernel
theorem fx_337_10 : ((337, 10, 340) : Int × Int × Int) ∈ fxl := by decide +kernel
theorem fx_337_11 : ((337, 11, 341) : Int × Int × Int) ∈ fxl := by decide +kernel
theorem fx_337_12 : ((337, 12, 342) : Int × Int × Int) ∈ fxl := by decide +kernel
theorem fx_337_13 : ((337, 13, 343) : Int × Int × Int) ∈ fxl := by decide +kernel
theorem fx_337_14 : ((337, 14, 344) : Int × Int × Int) ∈ fxl := by decide +kernel
theorem fx_337_15 : ((337, 15, 345) : Int × Int × Int) ∈ fxl := by decide +kernel
theorem fx_337_16 : ((337, 16, 346) : Int × Int × Int) ∈ fxl := by decide +kernel
theorem fx_337_17 : ((337, 17, 347) : Int × Int × Int) ∈ fxl := by decide +kernel
theorem fx_337_18 : ((337, 18, 348) : Int × Int × Int) ∈ fxl := by decide +kernel
theorem fx_337_19 : ((337, 19, 349) : Int × Int × Int) ∈ fxl := by decide +kernel
theorem fx_337_20 : ((337, 20, 350) : Int × Int × Int) ∈ fxl := by decide +kernel
theorem fx_337_21 : ((337, 21, 351) : Int × Int × Int) ∈ fxl := by decide +kernel
theorem fx_337_22 : ((337, 22, 352) : Int × Int × Int) ∈ fxl := by decide +kernel
theorem fx_337_23 : ((337, 23, 353) : Int × Int × Int) ∈ fxl := by decide +kernel
theorem fx_337_24 : ((337, 24, 354) : Int × Int × Int) ∈ fxl := by decide +kernel
theorem fx_337_25 : ((337, 25, 355) : Int × Int × Int) ∈ fxl := by decide +kernel
theorem fx_337_26 : ((337, 26, 356) : Int × Int × Int) ∈ fxl := by decide +kernel
theorem fx_337_27 : ((337, 27, 357) : Int × Int × Int) ∈ fxl := by decide +kernel
theorem fx_337_28 : ((337, 28, 358) : Int × Int × Int) ∈ fxl := by decide +kernel
theorem fx_337_29 : ((337, 29, 359) : Int × Int × Int) ∈ fxl := by decide +kernel
theorem fx_337_31 : ((337, 31, 360) : Int × Int × Int) ∈ fxl := by decide +kernel
theorem fx_337_33 : ((337, 33, 361) : Int × Int × Int) ∈ fxl := by decide +kernel
theorem fx_337_37 : ((337, 37, 362) : Int × Int × Int) ∈ fxl := by decide +kernel
theorem fx_337_38 : ((337, 38, 363) : Int × Int × Int) ∈ fxl := by decide +kernel
theorem fx_337_39 : ((337, 39, 364) : Int × Int × Int) ∈ fxl := by decide +kernel
theorem fx_337_40 : ((337, 40, 365) : Int × Int × Int) ∈ fxl := by decide +kernel
theorem fx_337_41 : ((337, 41, 366) : Int × Int × Int) ∈ fxl := by decide +kernel
theorem fx_337_42 : ((337, 42, 367) : Int × Int × Int) ∈ fxl := by decide +kernel
theorem fx_337_43 : ((337, 43, 368) : Int × Int × Int) ∈ fxl := by decide +kernel
theorem fx_337_44 : ((337, 44, 369) : Int × Int × Int) ∈ fxl := by decide +kernel
theorem fx_337_45 : ((337, 45, 370) : Int × Int × Int) ∈ fxl := by decide +kernel
theorem fx_337_46 : ((337, 46, 371) : Int × Int × Int) ∈ fxl := by decide +kernel
theorem fx_337_47 : ((337, 47, 372) : Int × Int × Int) ∈ fxl := by decide +kernel
theorem fx_337_48 : ((337, 48, 373) : Int × Int × Int) ∈ fxl := by decide +kernel
theorem fx_337_49 : ((337, 49, 374) : Int × Int × Int) ∈ fxl := by decide +kernel
theorem fx_337_50 : ((337, 50, 375) : Int × Int × Int) ∈ fxl := by decide +kernel
theorem fx_337_53 : ((337, 53, 376) : Int × Int × Int) ∈ fxl := by decide +kernel
theorem fx_337_54 : ((337, 54, 377) : Int × Int × Int) ∈ fxl := by decide +kernel
theorem fx_337_55 : ((337, 55, 378) : Int × Int × Int) ∈ fxl := by decide +kernel
theorem fx_337_56 : ((337, 56, 379) : Int × Int × Int) ∈ fxl := by decide +kernel
theorem fx_337_57 : ((337, 57, 380) : Int × Int × Int) ∈ fxl := by decide +kernel
theorem fx_337_58 : ((337, 58, 381) : Int × Int × Int) ∈ fxl := by decide +kernel
theorem fx_337_59 : ((337, 59, 382) : Int × Int × Int) ∈ fxl := by decide +kernel
theorem fx_337_61 : ((337, 61, 383) : Int × Int × Int) ∈ fxl := by decide +kernel
theorem fx_337_62 : ((337, 62, 384) : Int × Int × Int) ∈ fxl := by decide +kernel
theorem fx_337_63 : ((337, 63, 385) : Int × Int × Int) ∈ fxl := by decide +kernel
theorem fx_337_65 : ((337, 65, 386) : Int × Int × Int) ∈ fxl := by decide +kernel
theorem fx_337_66 : ((337, 66, 387) : Int × Int × Int) ∈ fxl := by decide +kernel
theorem fx_337_74 : ((337, 74, 388) : Int × Int × Int) ∈ fxl := by decide +kernel
theorem fx_337_75 : ((337, 75, 389) : Int × Int × Int) ∈ fxl := by decide +kernel
theorem fx_337_76 : ((337, 76, 390) : Int × Int × Int) ∈ fxl := by decide +kernel
theorem fx_337_77 : ((337, 77, 391) : Int × Int × Int) ∈ fxl := by decide +kernel
theorem fx_337_80 : ((337, 80, 392) : Int × Int × Int) ∈ fxl := by decide +kernel
theorem fx_337_81 : ((337, 81, 393) : Int × Int × Int) ∈ fxl := by decide +kernel
theorem fx_337_82 : ((337, 82, 394) : Int × Int × Int) ∈ fxl := by decide +kernel
theorem fx_337_83 : ((337, 83, 395) : Int × Int × Int) ∈ fxl := by decide +kernel
theorem fx_337_84 : ((337, 84, 396) : Int × Int × Int) ∈ fxl := by decide +kernel
theorem fx_337_85 : ((337, 85, 397) : Int × Int × Int) ∈ fxl := by decide +kernel
theorem fx_337_86 : ((337, 86, 398) : Int × Int × Int) ∈ fxl := by decide +kernel
theorem fx_337_87 : ((337, 87, 399) : Int × Int × Int) ∈ fxl := by decide +kernel
theorem fx_337_88 : ((337, 88, 400) : Int × Int × Int) ∈ fxl := by decide +kernel
theorem fx_337_89 : ((337, 89, 401) : Int × Int × Int) ∈ fxl := by decide +kernel
theorem fx_337_90 : ((337, 90, 402) : Int × Int × Int) ∈ fxl := by decide +kernel
theorem fx_337_91 : ((337, 91, 403) : Int × Int × Int) ∈ fxl := by decide +kernel
theorem fx_337_92 : ((337, 92, 404) : Int × Int × Int) ∈ fxl := by decide +kernel
theorem fx_337_93 : ((337, 93, 405) : Int × Int × Int) ∈ fxl := by decide +kernel
theorem fx_337_94 : ((337, 94, 406) : Int × Int × Int) ∈ fxl := by decide +kernel
theorem fxS0 : ∀ a, kd a = 17 → ((a, 0, a + 1) : Int × Int × Int) ∈ fxl := kd_all 17 (by decide) (by decide +kernel)
theorem fxS2 : ∀ a, kd a = 17 → ((a, 2, a + 2) : Int × Int × Int) ∈ fxl := kd_all 17 (by decide) (by decide +kernel)
theorem fxS4 : ∀ a, kd a = 17 → ((a, 4, a + 3) : Int × Int × Int) ∈ fxl := kd_all 17 (by decide) (by decide +kernel)
theorem kdS : ∀ a, kd a = 17 → kd (a + 1) = 6 ∧ ln (a + 1) = 40 ∧ kd (a + 2) = 1 ∧ ln (a + 2) = 5 ∧ kd (a + 3) = 1 ∧ ln (a + 3) = 900 := kd_all 17 (by decide) (by decide +kernel)
theorem kdSt : ∀ a, kd a = 17 → ∀ i : Int, 0 ≤ i ∧ i < 40 → kd (a + 4 + i) = 18 := by
  intro a ha i hi
  have e : i = ((i.toNat : Nat) : Int) := by omega
  rw [e]
  exact kd_all (P := fun a => ∀ j : Nat, j < 40 → kd (a + 4 + j) = 18) 17 (by decide) (by decide +kernel) a ha i.toNat (by omega)
theorem fxSt : ∀ a, kd a = 17 → ∀ i : Int, 0 ≤ i ∧ i < 40 → ((a + 1, i, a + 4 + i) : Int × Int × Int) ∈ fxl := by
  intro a ha i hi
  obtain ⟨j, rfl⟩ : ∃ j : Nat, i = j := ⟨i.toNat, by omega⟩
  have q := kd_all (P := fun a => (List.range 40).all (fun j => decide (((a + 1, (j : Int), a + 4 + j) : Int × Int × Int) ∈ fxl)) = true) 17 (by decide) (by decide +kernel) a ha
  exact of_decide_eq_true (List.all_eq_true.mp q j (List.mem_range.mpr (by omega)))
theorem kdTr : ∀ i : Int, 0 ≤ i ∧ i < 40 → kd (23 + i) = 20 := by
  intro i hi
  have e : i = ((i.toNat : Nat) : Int) := by omega
  rw [e]
  have q : ∀ j : Nat, j < 40 → kd (23 + j) = 20 := by decide +kernel
  exact q i.toNat (by omega)
theorem fxTr : ∀ i : Int, 0 ≤ i ∧ i < 40 → ((22, i, 23 + i) : Int × Int × Int) ∈ fxl := by
  intro i hi
  have e : i = ((i.toNat : Nat) : Int) := by omega
  rw [e]
  have q : ∀ j : Nat, j < 40 → ((22, (j : Int), 23 + j) : Int × Int × Int) ∈ fxl := by decide +kernel
  exact q i.toNat (by omega)
def fxv (a j : Int) : Int := ((fxl.find? (fun t => t.1 == a && t.2.1 == j)).map (fun t => t.2.2)).getD 0
theorem fxv_own : ∀ j : Int, 0 ≤ j ∧ j < 21 → ((6, j, fxv 6 j) : Int × Int × Int) ∈ fxl := by
  intro j hj
  obtain ⟨k, rfl⟩ : ∃ k : Nat, j = k := ⟨j.toNat, by omega⟩
  have q : (List.range 21).all (fun k => decide (((6, (k : Int), fxv 6 k) : Int × Int × Int) ∈ fxl)) = true := by decide +kernel
  exact of_decide_eq_true (List.all_eq_true.mp q k (List.mem_range.mpr (by omega)))
theorem fxv_word : ∀ a : Int, kd a = 54 → ∀ j : Int, 0 ≤ j ∧ j < ln a → ((a, j, fxv a j) : Int × Int × Int) ∈ fxl := by
  intro a ha j hj
  obtain ⟨k, rfl⟩ : ∃ k : Nat, j = k := ⟨j.toNat, by omega⟩
  have q := kd_all (P := fun a => (List.range (ln a).toNat).all (fun k => decide (((a, (k : Int), fxv a k) : Int × Int × Int) ∈ fxl)) = true) 54 (by decide) (by decide +kernel) a ha
  exact of_decide_eq_true (List.all_eq_true.mp q k (List.mem_range.mpr (by omega)))
theorem ln_le : lnL.all (fun v => decide (0 ≤ v ∧ v ≤ 100000)) = true := by decide +kernel
theorem ln_rng (a : Int) : 0 ≤ ln a ∧ ln a ≤ 100000 := by
  unfold ln
  rw [List.getD_eq_getElem?_getD]
  cases h : lnL[a.toNat]? with
  | none => simp
  | some v => exact of_decide_eq_true (List.all_eq_true.mp ln_le v (List.mem_of_getElem? h))
def slL : List Int := [0, 18, 20, 920, 931, 937, 958, 1859, 2760, 3661, 3663, 3684, 3748, 3760, 3856, 3952, 4048, 4144, 4240, 4336, 4432, 4434, 4474, 4483, 4492, 4501, 4510, 4519, 4528, 4537, 4546, 4555, 4564, 4573, 4582, 4591, 4600, 4609, 4618, 4627, 4636, 4645, 4654, 4663, 4672, 4681, 4690, 4699, 4708, 4717, 4726, 4735, 4744, 4753, 4762, 4771, 4780, 4789, 4798, 4807, 4816, 4825, 4834, 4838, 4934, 4942, 4950, 4951, 4954, 4961, 5001, 5006, 5906, 5916, 5926, 5936, 5946, 5956, 5966, 5976, 5986, 5996, 6006, 6016, 6026, 6036, 6046, 6056, 6066, 6076, 6086, 6096, 6106, 6116, 6126, 6136, 6146, 6156, 6166, 6176, 6186, 6196, 6206, 6216, 6226, 6236, 6246, 6256, 6266, 6276, 6286, 6296, 6306, 6313, 6353, 6358, 7258, 7268, 7278, 7288, 7298, 7308, 7318, 7328, 7338, 7348, 7358, 7368, 7378, 7388, 7398, 7408, 7418, 7428, 7438, 7448, 7458, 7468, 7478, 7488, 7498, 7508, 7518, 7528, 7538, 7548, 7558, 7568, 7578, 7588, 7598, 7608, 7618, 7628, 7638, 7648, 7658, 7665, 7705, 7710, 8610, 8620, 8630, 8640, 8650, 8660, 8670, 8680, 8690, 8700, 8710, 8720, 8730, 8740, 8750, 8760, 8770, 8780, 8790, 8800, 8810, 8820, 8830, 8840, 8850, 8860, 8870, 8880, 8890, 8900, 8910, 8920, 8930, 8940, 8950, 8960, 8970, 8980, 8990, 9000, 9010, 9050, 9372, 9413, 9453, 9460, 9500, 9505, 10405, 10415, 10425, 10435, 10445, 10455, 10465, 10475, 10485, 10495, 10505, 10515, 10525, 10535, 10545, 10555, 10565, 10575, 10585, 10595, 10605, 10615, 10625, 10635, 10645, 10655, 10665, 10675, 10685, 10695, 10705, 10715, 10725, 10735, 10745, 10755, 10765, 10775, 10785, 10795, 10805, 10812, 10852, 10857, 11757, 11767, 11777, 11787, 11797, 11807, 11817, 11827, 11837, 11847, 11857, 11867, 11877, 11887, 11897, 11907, 11917, 11927, 11937, 11947, 11957, 11967, 11977, 11987, 11997, 12007, 12017, 12027, 12037, 12047, 12057, 12067, 12077, 12087, 12097, 12107, 12117, 12127, 12137, 12147, 12157, 12164, 12204, 12209, 13109, 13119, 13129, 13139, 13149, 13159, 13169, 13179, 13189, 13199, 13209, 13219, 13229, 13239, 13249, 13259, 13269, 13279, 13289, 13299, 13309, 13319, 13329, 13339, 13349, 13359, 13369, 13379, 13389, 13399, 13409, 13419, 13429, 13439, 13449, 13459, 13469, 13479, 13489, 13499, 13509, 13605, 14505, 14510, 14514, 14519, 14522, 14527, 14532, 14536, 14540, 14545, 14549, 14551, 14554, 14557, 14560, 14566, 14569, 14575, 14580, 14584, 14587, 14590, 19990, 20990, 20995, 21195, 21395, 21595, 21600, 21625, 21650, 21675, 21700, 21725, 21727, 21737, 21747, 21749, 21751, 21911, 22071, 22231, 22391, 22551, 22711, 22719, 22727, 22735, 22738, 23738, 23834, 23930, 24026, 24122, 24162, 24202, 24242, 24282, 24322, 24362, 24402, 24442, 24482, 24524, 24564, 24660, 24668, 24676, 25006]
def slt (n : Int) : Int := slL.getD n.toNat 0
theorem slt_s : ∀ k : Nat, k < 406 → slL.getD (k + 1) 0 = slL.getD k 0 + lnL.getD (k + 1) 0 := by decide +kernel
theorem ln_nn : ∀ k : Nat, k < 407 → 0 ≤ lnL.getD k 0 := by decide +kernel
theorem slt_succ {n : Int} (h0 : 0 ≤ n) (h : n < 406) : slt (n + 1) = slt n + ln (n + 1) := by
  obtain ⟨k, rfl⟩ : ∃ k : Nat, n = k := ⟨n.toNat, by omega⟩
  have := slt_s k (by omega)
  unfold slt ln
  rw [show ((k : Int) + 1).toNat = k + 1 by omega, show ((k : Int)).toNat = k by omega]
  exact this
theorem ln_pos {n : Int} (h0 : 0 ≤ n) (h : n ≤ 406) : 0 ≤ ln n := by
  obtain ⟨k, rfl⟩ : ∃ k : Nat, n = k := ⟨n.toNat, by omega⟩
  have := ln_nn k (by omega)
  unfold ln
  rw [show ((k : Int)).toNat = k by omega]
  exact this
theorem slt_le {n n' : Int} (h0 : 0 ≤ n) (h : n ≤ n') (h1 : n' ≤ 406) : slt n ≤ slt n' := by
  obtain ⟨k, rfl⟩ : ∃ k : Nat, n' = n + k := ⟨(n' - n).toNat, by omega⟩
  clear h
  induction k with
  | zero => simp
  | succ k ih =>
    have e : n + ((k + 1 : Nat) : Int) = n + k + 1 := by omega
    rw [e] at h1 ⊢
    rw [slt_succ (by omega) (by omega)]
    have := ih (by omega)
    have := ln_pos (n := n + k + 1) (by omega) (by omega)
    omega
