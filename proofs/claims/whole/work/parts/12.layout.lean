/-! ===== the layout: behind the two constructors nothing is made; every cell has its place ===== -/
def mSH : List (Nat × Nat) := [(0, 12), (8, 7), (21, 400), (11, 2), (10, 12), (20, 11), (20, 11), (20, 11), (20, 11), (20, 11), (20, 80), (20, 6), (4, 3), (3, 7), (20, 400), (20, 12), (20, 12), (20, 12), (23, 64), (24, 6), (9, 6), (10, 12), (20, 11), (20, 11), (20, 11), (20, 11), (20, 11), (20, 80), (20, 6), (7, 12), (20, 11), (20, 11), (20, 11), (20, 11), (20, 11), (20, 11), (20, 11), (20, 11), (20, 11), (6, 4), (20, 10), (20, 10), (20, 10), (25, 4), (1, 3), (26, 20), (7, 12), (20, 11), (20, 11), (20, 11), (20, 11), (20, 11), (20, 11), (20, 11), (20, 11), (20, 11), (7, 12), (20, 11), (20, 11), (20, 11), (20, 11), (20, 11), (20, 11), (20, 11), (20, 11), (20, 11), (7, 12), (20, 11), (20, 11), (20, 11), (20, 11), (20, 11), (20, 11), (20, 11), (20, 11), (20, 11), (7, 12), (20, 11), (20, 11), (20, 11), (20, 11), (20, 11), (20, 11), (20, 11), (20, 11), (20, 11), (7, 12), (20, 11), (20, 11), (20, 11), (20, 11), (20, 11), (20, 11), (20, 11), (20, 11), (20, 11), (7, 12), (20, 11), (20, 11), (20, 11), (20, 11), (20, 11), (20, 11), (20, 11), (20, 11), (20, 11), (7, 12), (20, 11), (20, 11), (20, 11), (20, 11), (20, 11), (20, 11), (20, 11), (20, 11), (20, 11), (7, 12), (20, 11), (20, 11), (20, 11), (20, 11), (20, 11), (20, 11), (20, 11), (20, 11), (20, 11), (7, 12), (20, 11), (20, 11), (20, 11), (20, 11), (20, 11), (20, 11), (20, 11), (20, 11), (20, 11), (7, 12), (20, 11), (20, 11), (20, 11), (20, 11), (20, 11), (20, 11), (20, 11), (20, 11), (20, 11), (7, 12), (20, 11), (20, 11), (20, 11), (20, 11), (20, 11), (20, 11), (20, 11), (20, 11), (20, 11), (7, 12), (20, 11), (20, 11), (20, 11), (20, 11), (20, 11), (20, 11), (20, 11), (20, 11), (20, 11), (7, 12), (20, 11), (20, 11), (20, 11), (20, 11), (20, 11), (20, 11), (20, 11), (20, 11), (20, 11), (7, 12), (20, 11), (20, 11), (20, 11), (20, 11), (20, 11), (20, 11), (20, 11), (20, 11), (20, 11), (7, 12), (20, 11), (20, 11), (20, 11), (20, 11), (20, 11), (20, 11), (20, 11), (20, 11), (20, 11), (7, 12), (20, 11), (20, 11), (20, 11), (20, 11), (20, 11), (20, 11), (20, 11), (20, 11), (20, 11), (7, 12), (20, 11), (20, 11), (20, 11), (20, 11), (20, 11), (20, 11), (20, 11), (20, 11), (20, 11), (7, 12), (20, 11), (20, 11), (20, 11), (20, 11), (20, 11), (20, 11), (20, 11), (20, 11), (20, 11), (7, 12), (20, 11), (20, 11), (20, 11), (20, 11), (20, 11), (20, 11), (20, 11), (20, 11), (20, 11), (7, 12), (20, 11), (20, 11), (20, 11), (20, 11), (20, 11), (20, 11), (20, 11), (20, 11), (20, 11), (2, 12), (7, 12), (20, 11), (20, 11), (20, 11), (20, 11), (20, 11), (20, 11), (20, 11), (20, 11), (20, 11), (20, 11), (10, 12), (20, 11), (20, 11), (20, 11), (20, 11), (20, 11), (20, 80), (20, 6), (20, 11), (20, 11), (23, 12), (5, 11), (20, 1024), (20, 231), (10, 12), (20, 11), (20, 11), (20, 11), (20, 11), (20, 11), (20, 80), (20, 6), (7, 12), (20, 11), (20, 11), (20, 11), (20, 11), (20, 11), (20, 11), (20, 11), (20, 11), (20, 11), (10, 12), (20, 11), (20, 11), (20, 11), (20, 11), (20, 11), (20, 80), (20, 6), (7, 12), (20, 11), (20, 11), (20, 11), (20, 11), (20, 11), (20, 11), (20, 11), (20, 11), (20, 11), (3, 7), (20, 400), (20, 12), (20, 12), (20, 12), (23, 64), (3, 7), (20, 400), (20, 12), (20, 12), (20, 12), (23, 64), (3, 7), (20, 400), (20, 12), (20, 12), (20, 12), (23, 64), (3, 7), (20, 400), (20, 12), (20, 12), (20, 12), (23, 64), (3, 7), (20, 400), (20, 12), (20, 12), (20, 12), (23, 64), (3, 7), (20, 400), (20, 12), (20, 12), (20, 12), (23, 64), (9, 6), (10, 12), (20, 11), (20, 11), (20, 11), (20, 11), (20, 11), (20, 80), (20, 6), (7, 12), (20, 11), (20, 11), (20, 11), (20, 11), (20, 11), (20, 11), (20, 11), (20, 11), (20, 11), (6, 4), (20, 10), (20, 10), (20, 10), (9, 6), (10, 12), (20, 11), (20, 11), (20, 11), (20, 11), (20, 11), (20, 80), (20, 6), (7, 12), (20, 11), (20, 11), (20, 11), (20, 11), (20, 11), (20, 11), (20, 11), (20, 11), (20, 11), (6, 4), (20, 10), (20, 10), (20, 10), (9, 6), (10, 12), (20, 11), (20, 11), (20, 11), (20, 11), (20, 11), (20, 80), (20, 6), (7, 12), (20, 11), (20, 11), (20, 11), (20, 11), (20, 11), (20, 11), (20, 11), (20, 11), (20, 11), (6, 4), (20, 10), (20, 10), (20, 10), (9, 6), (10, 12), (20, 11), (20, 11), (20, 11), (20, 11), (20, 11), (20, 80), (20, 6), (7, 12), (20, 11), (20, 11), (20, 11), (20, 11), (20, 11), (20, 11), (20, 11), (20, 11), (20, 11), (6, 4), (20, 10), (20, 10), (20, 10), (12, 40), (21, 400), (20, 2400), (20, 7), (20, 288), (20, 6), (20, 155), (20, 400), (23, 64), (23, 12), (20, 226), (20, 11), (20, 11), (20, 2620), (20, 131), (20, 1024), (20, 210), (20, 904), (20, 4), (20, 4), (22, 4)]
def mSR : List (Nat × Nat × Nat) := [(0, 0, 1), (0, 1, 3), (0, 2, 12), (0, 3, 19), (0, 5, 20), (0, 6, 43), (0, 7, 44), (0, 8, 246), (0, 9, 269), (0, 10, 290), (0, 11, 298), (1, 0, 2), (3, 0, 4), (3, 1, 1), (4, 3, 5), (4, 4, 6), (4, 5, 7), (4, 6, 8), (4, 7, 9), (4, 9, 10), (4, 11, 11), (12, 0, 1), (13, 0, 14), (13, 2, 15), (13, 3, 16), (13, 4, 17), (13, 6, 18), (19, 0, 308), (19, 1, 314), (19, 2, 320), (19, 3, 326), (19, 4, 332), (19, 5, 338), (20, 0, 21), (20, 1, 29), (20, 2, 39), (21, 3, 22), (21, 4, 23), (21, 5, 24), (21, 6, 25), (21, 7, 26), (21, 9, 27), (21, 11, 28), (29, 3, 30), (29, 4, 31), (29, 5, 32), (29, 6, 33), (29, 7, 34), (29, 8, 35), (29, 9, 36), (29, 10, 37), (29, 11, 38), (39, 1, 40), (39, 2, 41), (39, 3, 42), (43, 0, 344), (43, 1, 367), (43, 2, 390), (43, 3, 413), (44, 2, 45), (45, 0, 46), (45, 1, 56), (45, 2, 66), (45, 3, 76), (45, 4, 86), (45, 5, 96), (45, 6, 106), (45, 7, 116), (45, 8, 126), (45, 9, 136), (45, 10, 146), (45, 11, 156), (45, 12, 166), (45, 13, 176), (45, 14, 186), (45, 15, 196), (45, 16, 206), (45, 17, 216), (45, 18, 226), (45, 19, 236), (46, 3, 47), (46, 4, 48), (46, 5, 49), (46, 6, 50), (46, 7, 51), (46, 8, 52), (46, 9, 53), (46, 10, 54), (46, 11, 55), (56, 3, 57), (56, 4, 58), (56, 5, 59), (56, 6, 60), (56, 7, 61), (56, 8, 62), (56, 9, 63), (56, 10, 64), (56, 11, 65), (66, 3, 67), (66, 4, 68), (66, 5, 69), (66, 6, 70), (66, 7, 71), (66, 8, 72), (66, 9, 73), (66, 10, 74), (66, 11, 75), (76, 3, 77), (76, 4, 78), (76, 5, 79), (76, 6, 80), (76, 7, 81), (76, 8, 82), (76, 9, 83), (76, 10, 84), (76, 11, 85), (86, 3, 87), (86, 4, 88), (86, 5, 89), (86, 6, 90), (86, 7, 91), (86, 8, 92), (86, 9, 93), (86, 10, 94), (86, 11, 95), (96, 3, 97), (96, 4, 98), (96, 5, 99), (96, 6, 100), (96, 7, 101), (96, 8, 102), (96, 9, 103), (96, 10, 104), (96, 11, 105), (106, 3, 107), (106, 4, 108), (106, 5, 109), (106, 6, 110), (106, 7, 111), (106, 8, 112), (106, 9, 113), (106, 10, 114), (106, 11, 115), (116, 3, 117), (116, 4, 118), (116, 5, 119), (116, 6, 120), (116, 7, 121), (116, 8, 122), (116, 9, 123), (116, 10, 124), (116, 11, 125), (126, 3, 127), (126, 4, 128), (126, 5, 129), (126, 6, 130), (126, 7, 131), (126, 8, 132), (126, 9, 133), (126, 10, 134), (126, 11, 135), (136, 3, 137), (136, 4, 138), (136, 5, 139), (136, 6, 140), (136, 7, 141), (136, 8, 142), (136, 9, 143), (136, 10, 144), (136, 11, 145), (146, 3, 147), (146, 4, 148), (146, 5, 149), (146, 6, 150), (146, 7, 151), (146, 8, 152), (146, 9, 153), (146, 10, 154), (146, 11, 155), (156, 3, 157), (156, 4, 158), (156, 5, 159), (156, 6, 160), (156, 7, 161), (156, 8, 162), (156, 9, 163), (156, 10, 164), (156, 11, 165), (166, 3, 167), (166, 4, 168), (166, 5, 169), (166, 6, 170), (166, 7, 171), (166, 8, 172), (166, 9, 173), (166, 10, 174), (166, 11, 175), (176, 3, 177), (176, 4, 178), (176, 5, 179), (176, 6, 180), (176, 7, 181), (176, 8, 182), (176, 9, 183), (176, 10, 184), (176, 11, 185), (186, 3, 187), (186, 4, 188), (186, 5, 189), (186, 6, 190), (186, 7, 191), (186, 8, 192), (186, 9, 193), (186, 10, 194), (186, 11, 195), (196, 3, 197), (196, 4, 198), (196, 5, 199), (196, 6, 200), (196, 7, 201), (196, 8, 202), (196, 9, 203), (196, 10, 204), (196, 11, 205), (206, 3, 207), (206, 4, 208), (206, 5, 209), (206, 6, 210), (206, 7, 211), (206, 8, 212), (206, 9, 213), (206, 10, 214), (206, 11, 215), (216, 3, 217), (216, 4, 218), (216, 5, 219), (216, 6, 220), (216, 7, 221), (216, 8, 222), (216, 9, 223), (216, 10, 224), (216, 11, 225), (226, 3, 227), (226, 4, 228), (226, 5, 229), (226, 6, 230), (226, 7, 231), (226, 8, 232), (226, 9, 233), (226, 10, 234), (226, 11, 235), (236, 3, 237), (236, 4, 238), (236, 5, 239), (236, 6, 240), (236, 7, 241), (236, 8, 242), (236, 9, 243), (236, 10, 244), (236, 11, 245), (246, 0, 247), (246, 1, 257), (246, 8, 266), (246, 9, 267), (246, 11, 268), (247, 3, 248), (247, 4, 249), (247, 5, 250), (247, 6, 251), (247, 7, 252), (247, 8, 253), (247, 9, 254), (247, 10, 255), (247, 11, 256), (258, 3, 259), (258, 4, 260), (258, 5, 261), (258, 6, 262), (258, 7, 263), (258, 9, 264), (258, 11, 265), (269, 5, 270), (269, 7, 271), (269, 10, 280), (272, 3, 273), (272, 4, 274), (272, 5, 275), (272, 6, 276), (272, 7, 277), (272, 9, 278), (272, 11, 279), (280, 3, 281), (280, 4, 282), (280, 5, 283), (280, 6, 284), (280, 7, 285), (280, 8, 286), (280, 9, 287), (280, 10, 288), (280, 11, 289), (290, 3, 291), (290, 4, 292), (290, 5, 293), (290, 6, 294), (290, 7, 295), (290, 9, 296), (290, 11, 297), (298, 3, 299), (298, 4, 300), (298, 5, 301), (298, 6, 302), (298, 7, 303), (298, 8, 304), (298, 9, 305), (298, 10, 306), (298, 11, 307), (308, 0, 309), (308, 2, 310), (308, 3, 311), (308, 4, 312), (308, 6, 313), (314, 0, 315), (314, 2, 316), (314, 3, 317), (314, 4, 318), (314, 6, 319), (320, 0, 321), (320, 2, 322), (320, 3, 323), (320, 4, 324), (320, 6, 325), (326, 0, 327), (326, 2, 328), (326, 3, 329), (326, 4, 330), (326, 6, 331), (332, 0, 333), (332, 2, 334), (332, 3, 335), (332, 4, 336), (332, 6, 337), (338, 0, 339), (338, 2, 340), (338, 3, 341), (338, 4, 342), (338, 6, 343), (344, 0, 345), (344, 1, 353), (344, 2, 363), (345, 3, 346), (345, 4, 347), (345, 5, 348), (345, 6, 349), (345, 7, 350), (345, 9, 351), (345, 11, 352), (353, 3, 354), (353, 4, 355), (353, 5, 356), (353, 6, 357), (353, 7, 358), (353, 8, 359), (353, 9, 360), (353, 10, 361), (353, 11, 362), (363, 1, 364), (363, 2, 365), (363, 3, 366), (367, 0, 368), (367, 1, 376), (367, 2, 386), (368, 3, 369), (368, 4, 370), (368, 5, 371), (368, 6, 372), (368, 7, 373), (368, 9, 374), (368, 11, 375), (376, 3, 377), (376, 4, 378), (376, 5, 379), (376, 6, 380), (376, 7, 381), (376, 8, 382), (376, 9, 383), (376, 10, 384), (376, 11, 385), (386, 1, 387), (386, 2, 388), (386, 3, 389), (390, 0, 391), (390, 1, 399), (390, 2, 409), (391, 3, 392), (391, 4, 393), (391, 5, 394), (391, 6, 395), (391, 7, 396), (391, 9, 397), (391, 11, 398), (399, 3, 400), (399, 4, 401), (399, 5, 402), (399, 6, 403), (399, 7, 404), (399, 8, 405), (399, 9, 406), (399, 10, 407), (399, 11, 408), (409, 1, 410), (409, 2, 411), (409, 3, 412), (413, 0, 414), (413, 1, 422), (413, 2, 432), (414, 3, 415), (414, 4, 416), (414, 5, 417), (414, 6, 418), (414, 7, 419), (414, 9, 420), (414, 11, 421), (422, 3, 423), (422, 4, 424), (422, 5, 425), (422, 6, 426), (422, 7, 427), (422, 8, 428), (422, 9, 429), (422, 10, 430), (422, 11, 431), (432, 1, 433), (432, 2, 434), (432, 3, 435), (436, 0, 437), (436, 3, 438), (436, 4, 439), (436, 5, 440), (436, 6, 441), (436, 7, 442), (436, 15, 443), (436, 17, 444), (436, 19, 445), (436, 20, 446), (436, 23, 447), (436, 27, 448), (436, 29, 449), (436, 31, 450), (436, 32, 451), (436, 34, 452), (436, 36, 453), (436, 37, 454), (436, 38, 455), (436, 39, 456)]
/-- the memory's fixed part: shapes, and the references that never change -/
def Fx (M : mM) : Prop := M.1 = mSH ∧ ∀ q ∈ mSR, M.2.2.2 q.1 q.2.1 = some q.2.2
theorem fx_sh {M : mM} (hM : Fx M) {p : Nat} {s : Nat × Nat} (h : mSH[p]? = some s) : M.1[p]? = some s := by rw [hM.1]; exact h
theorem fx_r {M : mM} (hM : Fx M) {p k q : Nat} (h : (p, k, q) ∈ mSR) : M.2.2.2 p k = some q := hM.2 _ h
theorem fx_I {M : mM} (h : Fx M) {p i : Nat} {v : Int32} : Fx (msI M p i v) := ⟨h.1, h.2⟩
theorem fx_L {M : mM} (h : Fx M) {p i : Nat} {v : Int64} : Fx (msL M p i v) := ⟨h.1, h.2⟩
theorem fx_C {M : mM} (h : Fx M) {p q a b n : Nat} : Fx (mcpy M p q a b n) := ⟨h.1, h.2⟩
theorem fx_R {M : mM} (h : Fx M) {p i : Nat} {v : Option Nat} (hn : ∀ q ∈ mSR, ¬ (q.1 = p ∧ q.2.1 = i)) : Fx (msR M p i v) := by
  refine ⟨h.1, fun q hq => ?_⟩
  show m2 M.2.2.2 p i v q.1 q.2.1 = _
  have h1 := hn q hq
  by_cases hp : q.1 = p
  · rw [hp, m2_at]
    have hi : ¬ q.2.1 = i := fun z => h1 ⟨hp, z⟩
    show (if q.2.1 = i then v else M.2.2.2 p q.2.1) = _
    rw [if_neg hi, ← hp]
    exact h.2 q hq
  · rw [m2_off hp]
    exact h.2 q hq
theorem mSH_len : mSH.length = 457 := by decide +kernel
theorem fx_ne {p : Nat} {s : Nat × Nat} (h : mSH[p]? = some s) : p ≠ mscr := by
  have h1 := (List.getElem?_eq_some_iff.mp h).1
  rw [mSH_len] at h1
  intro z
  rw [z] at h1
  exact absurd h1 (by decide)
theorem mxin_lt {i : Int32} {n : Nat} (h : mxin i n = true) : i.toNatClampNeg < n := by
  have h1 := mxin_of h
  exact Nat.not_le.mp fun q => h1 (Or.inr q)
def ruL : List Nat := [13, 308, 314, 320, 326, 332, 338]
abbrev is_ru (p : Nat) : Prop := p ∈ ruL
def sgL : List Nat := [39, 363, 386, 409, 432]
abbrev is_sg (p : Nat) : Prop := p ∈ sgL
def stL : List Nat := [29, 46, 56, 66, 76, 86, 96, 106, 116, 126, 136, 146, 156, 166, 176, 186, 196, 206, 216, 226, 236, 247, 280, 298, 353, 376, 399, 422]
abbrev is_st (p : Nat) : Prop := p ∈ stL
def woL : List Nat := [20, 344, 367, 390, 413]
abbrev is_wo (p : Nat) : Prop := p ∈ woL
def ydL : List Nat := [4, 21, 258, 272, 290, 345, 368, 391, 414]
abbrev is_yd (p : Nat) : Prop := p ∈ ydL
theorem ru_s0 {p : Nat} (h : is_ru p) : mSH[p + 0]? = some (3, 7) := (by decide +kernel : ∀ p ∈ ruL, mSH[p + 0]? = some (3, 7)) p h
theorem ru_s1 {p : Nat} (h : is_ru p) : mSH[p + 1]? = some (20, 400) := (by decide +kernel : ∀ p ∈ ruL, mSH[p + 1]? = some (20, 400)) p h
theorem ru_r0 {p : Nat} (h : is_ru p) : (p, 0, p + 1) ∈ mSR := (by decide +kernel : ∀ p ∈ ruL, (p, 0, p + 1) ∈ mSR) p h
theorem ru_s2 {p : Nat} (h : is_ru p) : mSH[p + 2]? = some (20, 12) := (by decide +kernel : ∀ p ∈ ruL, mSH[p + 2]? = some (20, 12)) p h
theorem ru_r2 {p : Nat} (h : is_ru p) : (p, 2, p + 2) ∈ mSR := (by decide +kernel : ∀ p ∈ ruL, (p, 2, p + 2) ∈ mSR) p h
theorem ru_s3 {p : Nat} (h : is_ru p) : mSH[p + 3]? = some (20, 12) := (by decide +kernel : ∀ p ∈ ruL, mSH[p + 3]? = some (20, 12)) p h
theorem ru_r3 {p : Nat} (h : is_ru p) : (p, 3, p + 3) ∈ mSR := (by decide +kernel : ∀ p ∈ ruL, (p, 3, p + 3) ∈ mSR) p h
theorem ru_s4 {p : Nat} (h : is_ru p) : mSH[p + 4]? = some (20, 12) := (by decide +kernel : ∀ p ∈ ruL, mSH[p + 4]? = some (20, 12)) p h
theorem ru_r4 {p : Nat} (h : is_ru p) : (p, 4, p + 4) ∈ mSR := (by decide +kernel : ∀ p ∈ ruL, (p, 4, p + 4) ∈ mSR) p h
theorem ru_s5 {p : Nat} (h : is_ru p) : mSH[p + 5]? = some (23, 64) := (by decide +kernel : ∀ p ∈ ruL, mSH[p + 5]? = some (23, 64)) p h
theorem ru_r6 {p : Nat} (h : is_ru p) : (p, 6, p + 5) ∈ mSR := (by decide +kernel : ∀ p ∈ ruL, (p, 6, p + 5) ∈ mSR) p h
theorem sg_s0 {p : Nat} (h : is_sg p) : mSH[p + 0]? = some (6, 4) := (by decide +kernel : ∀ p ∈ sgL, mSH[p + 0]? = some (6, 4)) p h
theorem sg_s1 {p : Nat} (h : is_sg p) : mSH[p + 1]? = some (20, 10) := (by decide +kernel : ∀ p ∈ sgL, mSH[p + 1]? = some (20, 10)) p h
theorem sg_r1 {p : Nat} (h : is_sg p) : (p, 1, p + 1) ∈ mSR := (by decide +kernel : ∀ p ∈ sgL, (p, 1, p + 1) ∈ mSR) p h
theorem sg_s2 {p : Nat} (h : is_sg p) : mSH[p + 2]? = some (20, 10) := (by decide +kernel : ∀ p ∈ sgL, mSH[p + 2]? = some (20, 10)) p h
theorem sg_r2 {p : Nat} (h : is_sg p) : (p, 2, p + 2) ∈ mSR := (by decide +kernel : ∀ p ∈ sgL, (p, 2, p + 2) ∈ mSR) p h
theorem sg_s3 {p : Nat} (h : is_sg p) : mSH[p + 3]? = some (20, 10) := (by decide +kernel : ∀ p ∈ sgL, mSH[p + 3]? = some (20, 10)) p h
theorem sg_r3 {p : Nat} (h : is_sg p) : (p, 3, p + 3) ∈ mSR := (by decide +kernel : ∀ p ∈ sgL, (p, 3, p + 3) ∈ mSR) p h
theorem st_s0 {p : Nat} (h : is_st p) : mSH[p + 0]? = some (7, 12) := (by decide +kernel : ∀ p ∈ stL, mSH[p + 0]? = some (7, 12)) p h
theorem st_s1 {p : Nat} (h : is_st p) : mSH[p + 1]? = some (20, 11) := (by decide +kernel : ∀ p ∈ stL, mSH[p + 1]? = some (20, 11)) p h
theorem st_r3 {p : Nat} (h : is_st p) : (p, 3, p + 1) ∈ mSR := (by decide +kernel : ∀ p ∈ stL, (p, 3, p + 1) ∈ mSR) p h
theorem st_s2 {p : Nat} (h : is_st p) : mSH[p + 2]? = some (20, 11) := (by decide +kernel : ∀ p ∈ stL, mSH[p + 2]? = some (20, 11)) p h
theorem st_r4 {p : Nat} (h : is_st p) : (p, 4, p + 2) ∈ mSR := (by decide +kernel : ∀ p ∈ stL, (p, 4, p + 2) ∈ mSR) p h
theorem st_s3 {p : Nat} (h : is_st p) : mSH[p + 3]? = some (20, 11) := (by decide +kernel : ∀ p ∈ stL, mSH[p + 3]? = some (20, 11)) p h
theorem st_r5 {p : Nat} (h : is_st p) : (p, 5, p + 3) ∈ mSR := (by decide +kernel : ∀ p ∈ stL, (p, 5, p + 3) ∈ mSR) p h
theorem st_s4 {p : Nat} (h : is_st p) : mSH[p + 4]? = some (20, 11) := (by decide +kernel : ∀ p ∈ stL, mSH[p + 4]? = some (20, 11)) p h
theorem st_r6 {p : Nat} (h : is_st p) : (p, 6, p + 4) ∈ mSR := (by decide +kernel : ∀ p ∈ stL, (p, 6, p + 4) ∈ mSR) p h
theorem st_s5 {p : Nat} (h : is_st p) : mSH[p + 5]? = some (20, 11) := (by decide +kernel : ∀ p ∈ stL, mSH[p + 5]? = some (20, 11)) p h
theorem st_r7 {p : Nat} (h : is_st p) : (p, 7, p + 5) ∈ mSR := (by decide +kernel : ∀ p ∈ stL, (p, 7, p + 5) ∈ mSR) p h
theorem st_s6 {p : Nat} (h : is_st p) : mSH[p + 6]? = some (20, 11) := (by decide +kernel : ∀ p ∈ stL, mSH[p + 6]? = some (20, 11)) p h
theorem st_r8 {p : Nat} (h : is_st p) : (p, 8, p + 6) ∈ mSR := (by decide +kernel : ∀ p ∈ stL, (p, 8, p + 6) ∈ mSR) p h
theorem st_s7 {p : Nat} (h : is_st p) : mSH[p + 7]? = some (20, 11) := (by decide +kernel : ∀ p ∈ stL, mSH[p + 7]? = some (20, 11)) p h
theorem st_r9 {p : Nat} (h : is_st p) : (p, 9, p + 7) ∈ mSR := (by decide +kernel : ∀ p ∈ stL, (p, 9, p + 7) ∈ mSR) p h
theorem st_s8 {p : Nat} (h : is_st p) : mSH[p + 8]? = some (20, 11) := (by decide +kernel : ∀ p ∈ stL, mSH[p + 8]? = some (20, 11)) p h
theorem st_r10 {p : Nat} (h : is_st p) : (p, 10, p + 8) ∈ mSR := (by decide +kernel : ∀ p ∈ stL, (p, 10, p + 8) ∈ mSR) p h
theorem st_s9 {p : Nat} (h : is_st p) : mSH[p + 9]? = some (20, 11) := (by decide +kernel : ∀ p ∈ stL, mSH[p + 9]? = some (20, 11)) p h
theorem st_r11 {p : Nat} (h : is_st p) : (p, 11, p + 9) ∈ mSR := (by decide +kernel : ∀ p ∈ stL, (p, 11, p + 9) ∈ mSR) p h
theorem wo_s0 {p : Nat} (h : is_wo p) : mSH[p + 0]? = some (9, 6) := (by decide +kernel : ∀ p ∈ woL, mSH[p + 0]? = some (9, 6)) p h
theorem wo_s1 {p : Nat} (h : is_wo p) : mSH[p + 1]? = some (10, 12) := (by decide +kernel : ∀ p ∈ woL, mSH[p + 1]? = some (10, 12)) p h
theorem wo_r0 {p : Nat} (h : is_wo p) : (p, 0, p + 1) ∈ mSR := (by decide +kernel : ∀ p ∈ woL, (p, 0, p + 1) ∈ mSR) p h
theorem wo_yd {p : Nat} (h : is_wo p) : is_yd (p + 1) := (by decide +kernel : ∀ p ∈ woL, is_yd (p + 1)) p h
theorem wo_s9 {p : Nat} (h : is_wo p) : mSH[p + 9]? = some (7, 12) := (by decide +kernel : ∀ p ∈ woL, mSH[p + 9]? = some (7, 12)) p h
theorem wo_r1 {p : Nat} (h : is_wo p) : (p, 1, p + 9) ∈ mSR := (by decide +kernel : ∀ p ∈ woL, (p, 1, p + 9) ∈ mSR) p h
theorem wo_st {p : Nat} (h : is_wo p) : is_st (p + 9) := (by decide +kernel : ∀ p ∈ woL, is_st (p + 9)) p h
theorem wo_s19 {p : Nat} (h : is_wo p) : mSH[p + 19]? = some (6, 4) := (by decide +kernel : ∀ p ∈ woL, mSH[p + 19]? = some (6, 4)) p h
theorem wo_r2 {p : Nat} (h : is_wo p) : (p, 2, p + 19) ∈ mSR := (by decide +kernel : ∀ p ∈ woL, (p, 2, p + 19) ∈ mSR) p h
theorem wo_sg {p : Nat} (h : is_wo p) : is_sg (p + 19) := (by decide +kernel : ∀ p ∈ woL, is_sg (p + 19)) p h
theorem yd_s0 {p : Nat} (h : is_yd p) : mSH[p + 0]? = some (10, 12) := (by decide +kernel : ∀ p ∈ ydL, mSH[p + 0]? = some (10, 12)) p h
theorem yd_s1 {p : Nat} (h : is_yd p) : mSH[p + 1]? = some (20, 11) := (by decide +kernel : ∀ p ∈ ydL, mSH[p + 1]? = some (20, 11)) p h
theorem yd_r3 {p : Nat} (h : is_yd p) : (p, 3, p + 1) ∈ mSR := (by decide +kernel : ∀ p ∈ ydL, (p, 3, p + 1) ∈ mSR) p h
theorem yd_s2 {p : Nat} (h : is_yd p) : mSH[p + 2]? = some (20, 11) := (by decide +kernel : ∀ p ∈ ydL, mSH[p + 2]? = some (20, 11)) p h
theorem yd_r4 {p : Nat} (h : is_yd p) : (p, 4, p + 2) ∈ mSR := (by decide +kernel : ∀ p ∈ ydL, (p, 4, p + 2) ∈ mSR) p h
theorem yd_s3 {p : Nat} (h : is_yd p) : mSH[p + 3]? = some (20, 11) := (by decide +kernel : ∀ p ∈ ydL, mSH[p + 3]? = some (20, 11)) p h
theorem yd_r5 {p : Nat} (h : is_yd p) : (p, 5, p + 3) ∈ mSR := (by decide +kernel : ∀ p ∈ ydL, (p, 5, p + 3) ∈ mSR) p h
theorem yd_s4 {p : Nat} (h : is_yd p) : mSH[p + 4]? = some (20, 11) := (by decide +kernel : ∀ p ∈ ydL, mSH[p + 4]? = some (20, 11)) p h
theorem yd_r6 {p : Nat} (h : is_yd p) : (p, 6, p + 4) ∈ mSR := (by decide +kernel : ∀ p ∈ ydL, (p, 6, p + 4) ∈ mSR) p h
theorem yd_s5 {p : Nat} (h : is_yd p) : mSH[p + 5]? = some (20, 11) := (by decide +kernel : ∀ p ∈ ydL, mSH[p + 5]? = some (20, 11)) p h
theorem yd_r7 {p : Nat} (h : is_yd p) : (p, 7, p + 5) ∈ mSR := (by decide +kernel : ∀ p ∈ ydL, (p, 7, p + 5) ∈ mSR) p h
theorem yd_s6 {p : Nat} (h : is_yd p) : mSH[p + 6]? = some (20, 80) := (by decide +kernel : ∀ p ∈ ydL, mSH[p + 6]? = some (20, 80)) p h
theorem yd_r9 {p : Nat} (h : is_yd p) : (p, 9, p + 6) ∈ mSR := (by decide +kernel : ∀ p ∈ ydL, (p, 9, p + 6) ∈ mSR) p h
theorem yd_s7 {p : Nat} (h : is_yd p) : mSH[p + 7]? = some (20, 6) := (by decide +kernel : ∀ p ∈ ydL, mSH[p + 7]? = some (20, 6)) p h
theorem yd_r11 {p : Nat} (h : is_yd p) : (p, 11, p + 7) ∈ mSR := (by decide +kernel : ∀ p ∈ ydL, (p, 11, p + 7) ∈ mSR) p h
theorem ar_ru {i : Nat} (h : i < 6) : is_ru (308 + 6 * i) ∧ (19, i, 308 + 6 * i) ∈ mSR := by
  have h1 : (List.range 6).all (fun i => decide (is_ru (308 + 6 * i)) && decide ((19, i, 308 + 6 * i) ∈ mSR)) = true := by decide +kernel
  have h2 := List.all_eq_true.mp h1 i (List.mem_range.mpr h)
  simp only [Bool.and_eq_true, decide_eq_true_eq] at h2
  exact h2
theorem ar_wo {i : Nat} (h : i < 4) : is_wo (344 + 23 * i) ∧ (43, i, 344 + 23 * i) ∈ mSR := by
  have h1 : (List.range 4).all (fun i => decide (is_wo (344 + 23 * i)) && decide ((43, i, 344 + 23 * i) ∈ mSR)) = true := by decide +kernel
  have h2 := List.all_eq_true.mp h1 i (List.mem_range.mpr h)
  simp only [Bool.and_eq_true, decide_eq_true_eq] at h2
  exact h2
theorem ar_st {i : Nat} (h : i < 20) : is_st (46 + 10 * i) ∧ (45, i, 46 + 10 * i) ∈ mSR := by
  have h1 : (List.range 20).all (fun i => decide (is_st (46 + 10 * i)) && decide ((45, i, 46 + 10 * i) ∈ mSR)) = true := by decide +kernel
  have h2 := List.all_eq_true.mp h1 i (List.mem_range.mpr h)
  simp only [Bool.and_eq_true, decide_eq_true_eq] at h2
  exact h2
theorem ru_13 : is_ru 13 := by decide +kernel
theorem ru_308 : is_ru 308 := by decide +kernel
theorem ru_314 : is_ru 314 := by decide +kernel
theorem ru_320 : is_ru 320 := by decide +kernel
theorem ru_326 : is_ru 326 := by decide +kernel
theorem ru_332 : is_ru 332 := by decide +kernel
theorem ru_338 : is_ru 338 := by decide +kernel
theorem sg_39 : is_sg 39 := by decide +kernel
theorem st_29 : is_st 29 := by decide +kernel
theorem st_247 : is_st 247 := by decide +kernel
theorem st_280 : is_st 280 := by decide +kernel
theorem st_298 : is_st 298 := by decide +kernel
theorem wo_20 : is_wo 20 := by decide +kernel
theorem yd_4 : is_yd 4 := by decide +kernel
theorem yd_21 : is_yd 21 := by decide +kernel
theorem yd_258 : is_yd 258 := by decide +kernel
theorem yd_272 : is_yd 272 := by decide +kernel
theorem yd_290 : is_yd 290 := by decide +kernel
theorem sh_0 : mSH[0]? = some (0, 12) := by decide +kernel
theorem r_0_0 : (0, 0, 1) ∈ mSR := by decide +kernel
theorem r_0_1 : (0, 1, 3) ∈ mSR := by decide +kernel
theorem r_0_2 : (0, 2, 12) ∈ mSR := by decide +kernel
theorem r_0_3 : (0, 3, 19) ∈ mSR := by decide +kernel
theorem r_0_5 : (0, 5, 20) ∈ mSR := by decide +kernel
theorem r_0_6 : (0, 6, 43) ∈ mSR := by decide +kernel
theorem r_0_7 : (0, 7, 44) ∈ mSR := by decide +kernel
theorem r_0_8 : (0, 8, 246) ∈ mSR := by decide +kernel
theorem r_0_9 : (0, 9, 269) ∈ mSR := by decide +kernel
theorem r_0_10 : (0, 10, 290) ∈ mSR := by decide +kernel
theorem r_0_11 : (0, 11, 298) ∈ mSR := by decide +kernel
theorem sh_1 : mSH[1]? = some (8, 7) := by decide +kernel
theorem r_1_0 : (1, 0, 2) ∈ mSR := by decide +kernel
theorem sh_2 : mSH[2]? = some (21, 400) := by decide +kernel
theorem sh_3 : mSH[3]? = some (11, 2) := by decide +kernel
theorem r_3_0 : (3, 0, 4) ∈ mSR := by decide +kernel
theorem r_3_1 : (3, 1, 1) ∈ mSR := by decide +kernel
theorem sh_4 : mSH[4]? = some (10, 12) := by decide +kernel
theorem r_4_3 : (4, 3, 5) ∈ mSR := by decide +kernel
theorem r_4_4 : (4, 4, 6) ∈ mSR := by decide +kernel
theorem r_4_5 : (4, 5, 7) ∈ mSR := by decide +kernel
theorem r_4_6 : (4, 6, 8) ∈ mSR := by decide +kernel
theorem r_4_7 : (4, 7, 9) ∈ mSR := by decide +kernel
theorem r_4_9 : (4, 9, 10) ∈ mSR := by decide +kernel
theorem r_4_11 : (4, 11, 11) ∈ mSR := by decide +kernel
theorem sh_5 : mSH[5]? = some (20, 11) := by decide +kernel
theorem sh_6 : mSH[6]? = some (20, 11) := by decide +kernel
theorem sh_7 : mSH[7]? = some (20, 11) := by decide +kernel
theorem sh_8 : mSH[8]? = some (20, 11) := by decide +kernel
theorem sh_9 : mSH[9]? = some (20, 11) := by decide +kernel
theorem sh_10 : mSH[10]? = some (20, 80) := by decide +kernel
theorem sh_11 : mSH[11]? = some (20, 6) := by decide +kernel
theorem sh_12 : mSH[12]? = some (4, 3) := by decide +kernel
theorem r_12_0 : (12, 0, 1) ∈ mSR := by decide +kernel
theorem sh_13 : mSH[13]? = some (3, 7) := by decide +kernel
theorem r_13_0 : (13, 0, 14) ∈ mSR := by decide +kernel
theorem r_13_2 : (13, 2, 15) ∈ mSR := by decide +kernel
theorem r_13_3 : (13, 3, 16) ∈ mSR := by decide +kernel
theorem r_13_4 : (13, 4, 17) ∈ mSR := by decide +kernel
theorem r_13_6 : (13, 6, 18) ∈ mSR := by decide +kernel
theorem sh_14 : mSH[14]? = some (20, 400) := by decide +kernel
theorem sh_15 : mSH[15]? = some (20, 12) := by decide +kernel
theorem sh_16 : mSH[16]? = some (20, 12) := by decide +kernel
theorem sh_17 : mSH[17]? = some (20, 12) := by decide +kernel
theorem sh_18 : mSH[18]? = some (23, 64) := by decide +kernel
theorem sh_19 : mSH[19]? = some (24, 6) := by decide +kernel
theorem sh_20 : mSH[20]? = some (9, 6) := by decide +kernel
theorem r_20_0 : (20, 0, 21) ∈ mSR := by decide +kernel
theorem r_20_1 : (20, 1, 29) ∈ mSR := by decide +kernel
theorem r_20_2 : (20, 2, 39) ∈ mSR := by decide +kernel
theorem sh_21 : mSH[21]? = some (10, 12) := by decide +kernel
theorem r_21_3 : (21, 3, 22) ∈ mSR := by decide +kernel
theorem r_21_4 : (21, 4, 23) ∈ mSR := by decide +kernel
theorem r_21_5 : (21, 5, 24) ∈ mSR := by decide +kernel
theorem r_21_6 : (21, 6, 25) ∈ mSR := by decide +kernel
theorem r_21_7 : (21, 7, 26) ∈ mSR := by decide +kernel
theorem r_21_9 : (21, 9, 27) ∈ mSR := by decide +kernel
theorem r_21_11 : (21, 11, 28) ∈ mSR := by decide +kernel
theorem sh_22 : mSH[22]? = some (20, 11) := by decide +kernel
theorem sh_23 : mSH[23]? = some (20, 11) := by decide +kernel
theorem sh_24 : mSH[24]? = some (20, 11) := by decide +kernel
theorem sh_25 : mSH[25]? = some (20, 11) := by decide +kernel
theorem sh_26 : mSH[26]? = some (20, 11) := by decide +kernel
theorem sh_27 : mSH[27]? = some (20, 80) := by decide +kernel
theorem sh_28 : mSH[28]? = some (20, 6) := by decide +kernel
theorem sh_29 : mSH[29]? = some (7, 12) := by decide +kernel
theorem r_29_3 : (29, 3, 30) ∈ mSR := by decide +kernel
theorem r_29_4 : (29, 4, 31) ∈ mSR := by decide +kernel
theorem r_29_5 : (29, 5, 32) ∈ mSR := by decide +kernel
theorem r_29_6 : (29, 6, 33) ∈ mSR := by decide +kernel
theorem r_29_7 : (29, 7, 34) ∈ mSR := by decide +kernel
theorem r_29_8 : (29, 8, 35) ∈ mSR := by decide +kernel
theorem r_29_9 : (29, 9, 36) ∈ mSR := by decide +kernel
theorem r_29_10 : (29, 10, 37) ∈ mSR := by decide +kernel
theorem r_29_11 : (29, 11, 38) ∈ mSR := by decide +kernel
theorem sh_30 : mSH[30]? = some (20, 11) := by decide +kernel
theorem sh_31 : mSH[31]? = some (20, 11) := by decide +kernel
theorem sh_32 : mSH[32]? = some (20, 11) := by decide +kernel
theorem sh_33 : mSH[33]? = some (20, 11) := by decide +kernel
theorem sh_34 : mSH[34]? = some (20, 11) := by decide +kernel
theorem sh_35 : mSH[35]? = some (20, 11) := by decide +kernel
theorem sh_36 : mSH[36]? = some (20, 11) := by decide +kernel
theorem sh_37 : mSH[37]? = some (20, 11) := by decide +kernel
theorem sh_38 : mSH[38]? = some (20, 11) := by decide +kernel
theorem sh_39 : mSH[39]? = some (6, 4) := by decide +kernel
theorem r_39_1 : (39, 1, 40) ∈ mSR := by decide +kernel
theorem r_39_2 : (39, 2, 41) ∈ mSR := by decide +kernel
theorem r_39_3 : (39, 3, 42) ∈ mSR := by decide +kernel
theorem sh_40 : mSH[40]? = some (20, 10) := by decide +kernel
theorem sh_41 : mSH[41]? = some (20, 10) := by decide +kernel
theorem sh_42 : mSH[42]? = some (20, 10) := by decide +kernel
theorem sh_43 : mSH[43]? = some (25, 4) := by decide +kernel
theorem sh_44 : mSH[44]? = some (1, 3) := by decide +kernel
theorem r_44_2 : (44, 2, 45) ∈ mSR := by decide +kernel
theorem sh_45 : mSH[45]? = some (26, 20) := by decide +kernel
theorem sh_246 : mSH[246]? = some (2, 12) := by decide +kernel
theorem r_246_0 : (246, 0, 247) ∈ mSR := by decide +kernel
theorem r_246_1 : (246, 1, 257) ∈ mSR := by decide +kernel
theorem r_246_8 : (246, 8, 266) ∈ mSR := by decide +kernel
theorem r_246_9 : (246, 9, 267) ∈ mSR := by decide +kernel
theorem r_246_11 : (246, 11, 268) ∈ mSR := by decide +kernel
theorem sh_247 : mSH[247]? = some (7, 12) := by decide +kernel
theorem r_247_3 : (247, 3, 248) ∈ mSR := by decide +kernel
theorem r_247_4 : (247, 4, 249) ∈ mSR := by decide +kernel
theorem r_247_5 : (247, 5, 250) ∈ mSR := by decide +kernel
theorem r_247_6 : (247, 6, 251) ∈ mSR := by decide +kernel
theorem r_247_7 : (247, 7, 252) ∈ mSR := by decide +kernel
theorem r_247_8 : (247, 8, 253) ∈ mSR := by decide +kernel
theorem r_247_9 : (247, 9, 254) ∈ mSR := by decide +kernel
theorem r_247_10 : (247, 10, 255) ∈ mSR := by decide +kernel
theorem r_247_11 : (247, 11, 256) ∈ mSR := by decide +kernel
theorem sh_248 : mSH[248]? = some (20, 11) := by decide +kernel
theorem sh_249 : mSH[249]? = some (20, 11) := by decide +kernel
theorem sh_250 : mSH[250]? = some (20, 11) := by decide +kernel
theorem sh_251 : mSH[251]? = some (20, 11) := by decide +kernel
theorem sh_252 : mSH[252]? = some (20, 11) := by decide +kernel
theorem sh_253 : mSH[253]? = some (20, 11) := by decide +kernel
theorem sh_254 : mSH[254]? = some (20, 11) := by decide +kernel
theorem sh_255 : mSH[255]? = some (20, 11) := by decide +kernel
theorem sh_256 : mSH[256]? = some (20, 11) := by decide +kernel
theorem sh_257 : mSH[257]? = some (20, 11) := by decide +kernel
theorem sh_258 : mSH[258]? = some (10, 12) := by decide +kernel
theorem r_258_3 : (258, 3, 259) ∈ mSR := by decide +kernel
theorem r_258_4 : (258, 4, 260) ∈ mSR := by decide +kernel
theorem r_258_5 : (258, 5, 261) ∈ mSR := by decide +kernel
theorem r_258_6 : (258, 6, 262) ∈ mSR := by decide +kernel
theorem r_258_7 : (258, 7, 263) ∈ mSR := by decide +kernel
theorem r_258_9 : (258, 9, 264) ∈ mSR := by decide +kernel
theorem r_258_11 : (258, 11, 265) ∈ mSR := by decide +kernel
theorem sh_259 : mSH[259]? = some (20, 11) := by decide +kernel
theorem sh_260 : mSH[260]? = some (20, 11) := by decide +kernel
theorem sh_261 : mSH[261]? = some (20, 11) := by decide +kernel
theorem sh_262 : mSH[262]? = some (20, 11) := by decide +kernel
theorem sh_263 : mSH[263]? = some (20, 11) := by decide +kernel
theorem sh_264 : mSH[264]? = some (20, 80) := by decide +kernel
theorem sh_265 : mSH[265]? = some (20, 6) := by decide +kernel
theorem sh_266 : mSH[266]? = some (20, 11) := by decide +kernel
theorem sh_267 : mSH[267]? = some (20, 11) := by decide +kernel
theorem sh_268 : mSH[268]? = some (23, 12) := by decide +kernel
theorem sh_269 : mSH[269]? = some (5, 11) := by decide +kernel
theorem r_269_5 : (269, 5, 270) ∈ mSR := by decide +kernel
theorem r_269_7 : (269, 7, 271) ∈ mSR := by decide +kernel
theorem r_269_10 : (269, 10, 280) ∈ mSR := by decide +kernel
theorem sh_270 : mSH[270]? = some (20, 1024) := by decide +kernel
theorem sh_271 : mSH[271]? = some (20, 231) := by decide +kernel
theorem sh_272 : mSH[272]? = some (10, 12) := by decide +kernel
theorem r_272_3 : (272, 3, 273) ∈ mSR := by decide +kernel
theorem r_272_4 : (272, 4, 274) ∈ mSR := by decide +kernel
theorem r_272_5 : (272, 5, 275) ∈ mSR := by decide +kernel
theorem r_272_6 : (272, 6, 276) ∈ mSR := by decide +kernel
theorem r_272_7 : (272, 7, 277) ∈ mSR := by decide +kernel
theorem r_272_9 : (272, 9, 278) ∈ mSR := by decide +kernel
theorem r_272_11 : (272, 11, 279) ∈ mSR := by decide +kernel
theorem sh_273 : mSH[273]? = some (20, 11) := by decide +kernel
theorem sh_274 : mSH[274]? = some (20, 11) := by decide +kernel
theorem sh_275 : mSH[275]? = some (20, 11) := by decide +kernel
theorem sh_276 : mSH[276]? = some (20, 11) := by decide +kernel
theorem sh_277 : mSH[277]? = some (20, 11) := by decide +kernel
theorem sh_278 : mSH[278]? = some (20, 80) := by decide +kernel
theorem sh_279 : mSH[279]? = some (20, 6) := by decide +kernel
theorem sh_280 : mSH[280]? = some (7, 12) := by decide +kernel
theorem r_280_3 : (280, 3, 281) ∈ mSR := by decide +kernel
theorem r_280_4 : (280, 4, 282) ∈ mSR := by decide +kernel
theorem r_280_5 : (280, 5, 283) ∈ mSR := by decide +kernel
theorem r_280_6 : (280, 6, 284) ∈ mSR := by decide +kernel
theorem r_280_7 : (280, 7, 285) ∈ mSR := by decide +kernel
theorem r_280_8 : (280, 8, 286) ∈ mSR := by decide +kernel
theorem r_280_9 : (280, 9, 287) ∈ mSR := by decide +kernel
theorem r_280_10 : (280, 10, 288) ∈ mSR := by decide +kernel
theorem r_280_11 : (280, 11, 289) ∈ mSR := by decide +kernel
theorem sh_281 : mSH[281]? = some (20, 11) := by decide +kernel
theorem sh_282 : mSH[282]? = some (20, 11) := by decide +kernel
theorem sh_283 : mSH[283]? = some (20, 11) := by decide +kernel
theorem sh_284 : mSH[284]? = some (20, 11) := by decide +kernel
theorem sh_285 : mSH[285]? = some (20, 11) := by decide +kernel
theorem sh_286 : mSH[286]? = some (20, 11) := by decide +kernel
theorem sh_287 : mSH[287]? = some (20, 11) := by decide +kernel
theorem sh_288 : mSH[288]? = some (20, 11) := by decide +kernel
theorem sh_289 : mSH[289]? = some (20, 11) := by decide +kernel
theorem sh_290 : mSH[290]? = some (10, 12) := by decide +kernel
theorem r_290_3 : (290, 3, 291) ∈ mSR := by decide +kernel
theorem r_290_4 : (290, 4, 292) ∈ mSR := by decide +kernel
theorem r_290_5 : (290, 5, 293) ∈ mSR := by decide +kernel
theorem r_290_6 : (290, 6, 294) ∈ mSR := by decide +kernel
theorem r_290_7 : (290, 7, 295) ∈ mSR := by decide +kernel
theorem r_290_9 : (290, 9, 296) ∈ mSR := by decide +kernel
theorem r_290_11 : (290, 11, 297) ∈ mSR := by decide +kernel
theorem sh_291 : mSH[291]? = some (20, 11) := by decide +kernel
theorem sh_292 : mSH[292]? = some (20, 11) := by decide +kernel
theorem sh_293 : mSH[293]? = some (20, 11) := by decide +kernel
theorem sh_294 : mSH[294]? = some (20, 11) := by decide +kernel
theorem sh_295 : mSH[295]? = some (20, 11) := by decide +kernel
theorem sh_296 : mSH[296]? = some (20, 80) := by decide +kernel
theorem sh_297 : mSH[297]? = some (20, 6) := by decide +kernel
theorem sh_298 : mSH[298]? = some (7, 12) := by decide +kernel
theorem r_298_3 : (298, 3, 299) ∈ mSR := by decide +kernel
theorem r_298_4 : (298, 4, 300) ∈ mSR := by decide +kernel
theorem r_298_5 : (298, 5, 301) ∈ mSR := by decide +kernel
theorem r_298_6 : (298, 6, 302) ∈ mSR := by decide +kernel
theorem r_298_7 : (298, 7, 303) ∈ mSR := by decide +kernel
theorem r_298_8 : (298, 8, 304) ∈ mSR := by decide +kernel
theorem r_298_9 : (298, 9, 305) ∈ mSR := by decide +kernel
theorem r_298_10 : (298, 10, 306) ∈ mSR := by decide +kernel
theorem r_298_11 : (298, 11, 307) ∈ mSR := by decide +kernel
theorem sh_299 : mSH[299]? = some (20, 11) := by decide +kernel
theorem sh_300 : mSH[300]? = some (20, 11) := by decide +kernel
theorem sh_301 : mSH[301]? = some (20, 11) := by decide +kernel
theorem sh_302 : mSH[302]? = some (20, 11) := by decide +kernel
theorem sh_303 : mSH[303]? = some (20, 11) := by decide +kernel
theorem sh_304 : mSH[304]? = some (20, 11) := by decide +kernel
theorem sh_305 : mSH[305]? = some (20, 11) := by decide +kernel
theorem sh_306 : mSH[306]? = some (20, 11) := by decide +kernel
theorem sh_307 : mSH[307]? = some (20, 11) := by decide +kernel
theorem sh_436 : mSH[436]? = some (12, 40) := by decide +kernel
theorem r_436_0 : (436, 0, 437) ∈ mSR := by decide +kernel
theorem r_436_3 : (436, 3, 438) ∈ mSR := by decide +kernel
theorem r_436_4 : (436, 4, 439) ∈ mSR := by decide +kernel
theorem r_436_5 : (436, 5, 440) ∈ mSR := by decide +kernel
theorem r_436_6 : (436, 6, 441) ∈ mSR := by decide +kernel
theorem r_436_7 : (436, 7, 442) ∈ mSR := by decide +kernel
theorem r_436_15 : (436, 15, 443) ∈ mSR := by decide +kernel
theorem r_436_17 : (436, 17, 444) ∈ mSR := by decide +kernel
theorem r_436_19 : (436, 19, 445) ∈ mSR := by decide +kernel
theorem r_436_20 : (436, 20, 446) ∈ mSR := by decide +kernel
theorem r_436_23 : (436, 23, 447) ∈ mSR := by decide +kernel
theorem r_436_27 : (436, 27, 448) ∈ mSR := by decide +kernel
theorem r_436_29 : (436, 29, 449) ∈ mSR := by decide +kernel
theorem r_436_31 : (436, 31, 450) ∈ mSR := by decide +kernel
theorem r_436_32 : (436, 32, 451) ∈ mSR := by decide +kernel
theorem r_436_34 : (436, 34, 452) ∈ mSR := by decide +kernel
theorem r_436_36 : (436, 36, 453) ∈ mSR := by decide +kernel
theorem r_436_37 : (436, 37, 454) ∈ mSR := by decide +kernel
theorem r_436_38 : (436, 38, 455) ∈ mSR := by decide +kernel
theorem r_436_39 : (436, 39, 456) ∈ mSR := by decide +kernel
theorem sh_437 : mSH[437]? = some (21, 400) := by decide +kernel
theorem sh_438 : mSH[438]? = some (20, 2400) := by decide +kernel
theorem sh_439 : mSH[439]? = some (20, 7) := by decide +kernel
theorem sh_440 : mSH[440]? = some (20, 288) := by decide +kernel
theorem sh_441 : mSH[441]? = some (20, 6) := by decide +kernel
theorem sh_442 : mSH[442]? = some (20, 155) := by decide +kernel
theorem sh_443 : mSH[443]? = some (20, 400) := by decide +kernel
theorem sh_444 : mSH[444]? = some (23, 64) := by decide +kernel
theorem sh_445 : mSH[445]? = some (23, 12) := by decide +kernel
theorem sh_446 : mSH[446]? = some (20, 226) := by decide +kernel
theorem sh_447 : mSH[447]? = some (20, 11) := by decide +kernel
theorem sh_448 : mSH[448]? = some (20, 11) := by decide +kernel
theorem sh_449 : mSH[449]? = some (20, 2620) := by decide +kernel
theorem sh_450 : mSH[450]? = some (20, 131) := by decide +kernel
theorem sh_451 : mSH[451]? = some (20, 1024) := by decide +kernel
theorem sh_452 : mSH[452]? = some (20, 210) := by decide +kernel
theorem sh_453 : mSH[453]? = some (20, 904) := by decide +kernel
theorem sh_454 : mSH[454]? = some (20, 4) := by decide +kernel
theorem sh_455 : mSH[455]? = some (20, 4) := by decide +kernel
theorem sh_456 : mSH[456]? = some (22, 4) := by decide +kernel
theorem mu_12_1 : ∀ q ∈ mSR, ¬ (q.1 = 12 ∧ q.2.1 = 1) := by decide +kernel
theorem mu_246_5 : ∀ q ∈ mSR, ¬ (q.1 = 246 ∧ q.2.1 = 5) := by decide +kernel
theorem mu_246_6 : ∀ q ∈ mSR, ¬ (q.1 = 246 ∧ q.2.1 = 6) := by decide +kernel
theorem mu_269_8 : ∀ q ∈ mSR, ¬ (q.1 = 269 ∧ q.2.1 = 8) := by decide +kernel
theorem mu_269_9 : ∀ q ∈ mSR, ¬ (q.1 = 269 ∧ q.2.1 = 9) := by decide +kernel
/-! ===== pieces of the printed functions ===== -/
def rd (M : mM) (p n : Nat) (i : Int32) : Option Int32 := if mxin i n = true then some (M.2.1 p i.toNatClampNeg) else none
def rdL (M : mM) (p n : Nat) (i : Int32) : Option Int64 := if mxin i n = true then some (M.2.2.1 p i.toNatClampNeg) else none
def rdS (X : mX) (i : Int32) : Option Int32 := if mxin i X.1 = true then some (X.2 i.toNatClampNeg) else none
def ix (n : Nat) (i : Int32) : Option Nat := if mxin i n = true then some i.toNatClampNeg else none
def wr (M : mM) (p n : Nat) (i v : Int32) : Option mM := if mxin i n = true then some (msI M p i.toNatClampNeg v) else none
def wrB (M : mM) (p n : Nat) (i v : Int32) : Option mM := if mxin i n = true then some (msI M p i.toNatClampNeg (vp_nar .byte v)) else none
def wrZ (M : mM) (p n : Nat) (i v : Int32) : Option mM := if mxin i n = true then some (msI M p i.toNatClampNeg (vp_nar .boolean v)) else none
def wrL (M : mM) (p n : Nat) (i : Int32) (v : Int64) : Option mM := if mxin i n = true then some (msL M p i.toNatClampNeg v) else none
def pI (M : mM) (p i : Nat) (v : Int32) : Option mM := some (msI M p i v)
def pZ (M : mM) (p i : Nat) (v : Int32) : Option mM := if v = 0 ∨ v = 1 then some (msI M p i v) else none
def pL (M : mM) (p i : Nat) (v : Int64) : Option mM := some (msL M p i v)
def pR (M : mM) (p i : Nat) (v : Option Nat) : Option mM := some (msR M p i v)
def pC (M : mM) (p q n : Nat) : Option mM := some (mcpy M p q 0 0 n)
def nnl (L : List Nat) (r : Option Nat) : Option Nat := r.bind fun y => if y ∈ L then some y else none
def FUEL : Nat := 100000
theorem rd_i {M : mM} {p n : Nat} {i v : Int32} (h : rd M p n i = some v) : mxin i n = true ∧ M.2.1 p i.toNatClampNeg = v := by
  unfold rd at h
  split at h
  · exact ⟨by assumption, Option.some.inj h⟩
  · cases h
theorem ix_i {n j : Nat} {i : Int32} (h : ix n i = some j) : mxin i n = true ∧ i.toNatClampNeg = j ∧ j < n := by
  unfold ix at h
  split at h
  · rename_i h1
    exact ⟨h1, Option.some.inj h, by rw [← Option.some.inj h]; exact mxin_lt h1⟩
  · cases h
theorem nnl_i {L : List Nat} {r : Option Nat} {y : Nat} (h : nnl L r = some y) : r = some y ∧ y ∈ L := by
  obtain ⟨z, h1, h2⟩ := Option.bind_eq_some_iff.mp h
  split at h2
  · cases h2
    exact ⟨h1, by assumption⟩
  · cases h2
section KF
variable {X : mX} {d k pc nx a : Nat} {lc : List (Nat × Value)} {st : List Value} {M M' : mM} {Q : Option Value → mM → Prop}
theorem K_rd {p n : Nat} {i v : Int32} (h : mfind (mm_cd k) pc = some (.iaload, nx, a)) (hs : mSH[p]? = some (20, n)) (hM : Fx M) (hv : rd M p n i = some v) (kk : KK X d k nx lc (.int v :: st) M Q) : KK X d k pc lc (.int i :: .ref p :: st) M Q := by
  obtain ⟨h1, rfl⟩ := rd_i hv
  exact K_iald h (fx_sh hM hs) (fx_ne hs) h1 kk
theorem K_rdB {p n t : Nat} {i v : Int32} (h : mfind (mm_cd k) pc = some (.baload, nx, a)) (hs : mSH[p]? = some (t, n)) (ht : t = 21 ∨ t = 22) (hM : Fx M) (hv : rd M p n i = some v) (kk : KK X d k nx lc (.int v :: st) M Q) : KK X d k pc lc (.int i :: .ref p :: st) M Q := by
  obtain ⟨h1, rfl⟩ := rd_i hv
  exact K_bald h (fx_sh hM hs) ht h1 kk
theorem K_rdL {p n : Nat} {i : Int32} {v : Int64} (h : mfind (mm_cd k) pc = some (.laload, nx, a)) (hs : mSH[p]? = some (23, n)) (hM : Fx M) (hv : rdL M p n i = some v) (kk : KK X d k nx lc (.long v :: st) M Q) : KK X d k pc lc (.int i :: .ref p :: st) M Q := by
  unfold rdL at hv
  split at hv
  · cases hv
    exact K_lald h (fx_sh hM hs) (by assumption) kk
  · cases hv
theorem K_rdS {i v : Int32} (h : mfind (mm_cd k) pc = some (.iaload, nx, a)) (hv : rdS X i = some v) (kk : KK X d k nx lc (.int v :: st) M Q) : KK X d k pc lc (.int i :: .ref mscr :: st) M Q := by
  unfold rdS at hv
  split at hv
  · cases hv
    exact K_sald h (by assumption) kk
  · cases hv
theorem K_rdA {p n t j q : Nat} {i : Int32} (h : mfind (mm_cd k) pc = some (.aaload, nx, a)) (hs : mSH[p]? = some (t, n)) (ht : 24 ≤ t ∧ t ≤ 26) (hM : Fx M) (hv : ix n i = some j) (hr : (p, j, q) ∈ mSR) (kk : KK X d k nx lc (.ref q :: st) M Q) : KK X d k pc lc (.int i :: .ref p :: st) M Q := by
  obtain ⟨h1, rfl, -⟩ := ix_i hv
  exact K_aald h (fx_sh hM hs) ht h1 (fx_r hM hr) kk
theorem K_wr {p n : Nat} {i v : Int32} (h : mfind (mm_cd k) pc = some (.iastore, nx, a)) (hs : mSH[p]? = some (20, n)) (hM : Fx M) (hv : wr M p n i v = some M') (kk : Fx M' → KK X d k nx lc st M' Q) : KK X d k pc lc (.int v :: .int i :: .ref p :: st) M Q := by
  unfold wr at hv
  split at hv
  · cases hv
    exact K_iast h (fx_sh hM hs) (by assumption) (kk (fx_I hM))
  · cases hv
theorem K_wrB {p n : Nat} {i v : Int32} (h : mfind (mm_cd k) pc = some (.bastore, nx, a)) (hs : mSH[p]? = some (21, n)) (hM : Fx M) (hv : wrB M p n i v = some M') (kk : Fx M' → KK X d k nx lc st M' Q) : KK X d k pc lc (.int v :: .int i :: .ref p :: st) M Q := by
  unfold wrB at hv
  split at hv
  · cases hv
    exact K_bast h (fx_sh hM hs) (by assumption) (kk (fx_I hM))
  · cases hv
theorem K_wrZ {p n : Nat} {i v : Int32} (h : mfind (mm_cd k) pc = some (.bastore, nx, a)) (hs : mSH[p]? = some (22, n)) (hM : Fx M) (hv : wrZ M p n i v = some M') (kk : Fx M' → KK X d k nx lc st M' Q) : KK X d k pc lc (.int v :: .int i :: .ref p :: st) M Q := by
  unfold wrZ at hv
  split at hv
  · cases hv
    exact K_zast h (fx_sh hM hs) (by assumption) (kk (fx_I hM))
  · cases hv
theorem K_wrL {p n : Nat} {i : Int32} {v : Int64} (h : mfind (mm_cd k) pc = some (.lastore, nx, a)) (hs : mSH[p]? = some (23, n)) (hM : Fx M) (hv : wrL M p n i v = some M') (kk : Fx M' → KK X d k nx lc st M' Q) : KK X d k pc lc (.long v :: .int i :: .ref p :: st) M Q := by
  unfold wrL at hv
  split at hv
  · cases hv
    exact K_last h (fx_sh hM hs) (by assumption) (kk (fx_L hM))
  · cases hv
theorem K_gI {x p : Nat} {s : Nat × Nat} (h : mfind (mm_cd k) pc = some (.getfield x, nx, a)) (hs : mSH[p]? = some s) (hM : Fx M) (ht : s.1 = a / 100) (hk : mkf (mm_ty (a / 100) (a % 100)) = 0) (i : Nat) (hi : a % 100 = i) (kk : KK X d k nx lc (.int (M.2.1 p i) :: st) M Q) : KK X d k pc lc (.ref p :: st) M Q := K_getI h (fx_sh hM hs) ht hk i hi kk
theorem K_gL {x p : Nat} {s : Nat × Nat} (h : mfind (mm_cd k) pc = some (.getfield x, nx, a)) (hs : mSH[p]? = some s) (hM : Fx M) (ht : s.1 = a / 100) (hk : mkf (mm_ty (a / 100) (a % 100)) = 1) (i : Nat) (hi : a % 100 = i) (kk : KK X d k nx lc (.long (M.2.2.1 p i) :: st) M Q) : KK X d k pc lc (.ref p :: st) M Q := K_getL h (fx_sh hM hs) ht hk i hi kk
theorem K_gQ {x p : Nat} {s : Nat × Nat} (h : mfind (mm_cd k) pc = some (.getfield x, nx, a)) (hs : mSH[p]? = some s) (hM : Fx M) (ht : s.1 = a / 100) (hk : mkf (mm_ty (a / 100) (a % 100)) = 2) (i : Nat) (hi : a % 100 = i) (kk : KK X d k nx lc (va_rf (M.2.2.2 p i) :: st) M Q) : KK X d k pc lc (.ref p :: st) M Q := K_getQ h (fx_sh hM hs) ht hk i hi kk
theorem K_gR {x p q : Nat} {s : Nat × Nat} (h : mfind (mm_cd k) pc = some (.getfield x, nx, a)) (hs : mSH[p]? = some s) (hM : Fx M) (ht : s.1 = a / 100) (hk : mkf (mm_ty (a / 100) (a % 100)) = 2) (i : Nat) (hi : a % 100 = i) (hr : (p, i, q) ∈ mSR) (kk : KK X d k nx lc (.ref q :: st) M Q) : KK X d k pc lc (.ref p :: st) M Q := K_getR h (fx_sh hM hs) ht hk i hi (fx_r hM hr) kk
theorem K_gN {x p q : Nat} {s : Nat × Nat} {L : List Nat} (h : mfind (mm_cd k) pc = some (.getfield x, nx, a)) (hs : mSH[p]? = some s) (hM : Fx M) (ht : s.1 = a / 100) (hk : mkf (mm_ty (a / 100) (a % 100)) = 2) (i : Nat) (hi : a % 100 = i) (hv : nnl L (M.2.2.2 p i) = some q) (kk : KK X d k nx lc (.ref q :: st) M Q) : KK X d k pc lc (.ref p :: st) M Q := K_getR h (fx_sh hM hs) ht hk i hi (nnl_i hv).1 kk
theorem K_pI {x p : Nat} {s : Nat × Nat} {v : Int32} (h : mfind (mm_cd k) pc = some (.putfield x, nx, a)) (hs : mSH[p]? = some s) (hM : Fx M) (ht : s.1 = a / 100) (hk : mm_ty (a / 100) (a % 100) = .int) (i : Nat) (hi : a % 100 = i) (hv : pI M p i v = some M') (kk : Fx M' → KK X d k nx lc st M' Q) : KK X d k pc lc (.int v :: .ref p :: st) M Q := by
  cases hv
  exact K_putI h (fx_sh hM hs) ht hk i hi (kk (fx_I hM))
theorem K_pZ {x p : Nat} {s : Nat × Nat} {v : Int32} (h : mfind (mm_cd k) pc = some (.putfield x, nx, a)) (hs : mSH[p]? = some s) (hM : Fx M) (ht : s.1 = a / 100) (hk : mm_ty (a / 100) (a % 100) = .boolean) (i : Nat) (hi : a % 100 = i) (hv : pZ M p i v = some M') (kk : Fx M' → KK X d k nx lc st M' Q) : KK X d k pc lc (.int v :: .ref p :: st) M Q := by
  unfold pZ at hv
  split at hv
  · cases hv
    exact K_putZ h (fx_sh hM hs) ht hk i hi (by assumption) (kk (fx_I hM))
  · cases hv
theorem K_pL {x p : Nat} {s : Nat × Nat} {v : Int64} (h : mfind (mm_cd k) pc = some (.putfield x, nx, a)) (hs : mSH[p]? = some s) (hM : Fx M) (ht : s.1 = a / 100) (hk : mm_ty (a / 100) (a % 100) = .long) (i : Nat) (hi : a % 100 = i) (hv : pL M p i v = some M') (kk : Fx M' → KK X d k nx lc st M' Q) : KK X d k pc lc (.long v :: .ref p :: st) M Q := by
  cases hv
  exact K_putL h (fx_sh hM hs) ht hk i hi (kk (fx_L hM))
theorem K_pR {x p v : Nat} {s : Nat × Nat} (h : mfind (mm_cd k) pc = some (.putfield x, nx, a)) (hs : mSH[p]? = some s) (hM : Fx M) (ht : s.1 = a / 100) (hk : mkf (mm_ty (a / 100) (a % 100)) = 2) (i : Nat) (hi : a % 100 = i) (hn : ∀ q ∈ mSR, ¬ (q.1 = p ∧ q.2.1 = i)) (hv : pR M p i (some v) = some M') (kk : Fx M' → KK X d k nx lc st M' Q) : KK X d k pc lc (.ref v :: .ref p :: st) M Q := by
  cases hv
  exact K_putR h (fx_sh hM hs) ht hk i hi (kk (fx_R hM hn))
theorem K_pQ {x p : Nat} {v : Option Nat} {s : Nat × Nat} (h : mfind (mm_cd k) pc = some (.putfield x, nx, a)) (hs : mSH[p]? = some s) (hM : Fx M) (ht : s.1 = a / 100) (hk : mkf (mm_ty (a / 100) (a % 100)) = 2) (i : Nat) (hi : a % 100 = i) (hn : ∀ q ∈ mSR, ¬ (q.1 = p ∧ q.2.1 = i)) (hv : pR M p i v = some M') (kk : Fx M' → KK X d k nx lc st M' Q) : KK X d k pc lc (va_rf v :: .ref p :: st) M Q := by
  cases hv
  exact K_putQ h (fx_sh hM hs) ht hk i hi (kk (fx_R hM hn))
theorem K_pC {p q n0 n1 n2 x : Nat} {n : Int32} (h : mfind (mm_cd k) pc = some (.invokestatic x, nx, 9001)) (hs : mSH[p]? = some (20, n0)) (ht : mSH[q]? = some (20, n1)) (hM : Fx M) (hc : ¬ n < 0 ∧ n.toNatClampNeg = n2 ∧ n2 ≤ n0 ∧ n2 ≤ n1) (hl : st.length ≤ 4) (hv : pC M p q n2 = some M') (kk : Fx M' → KK X d k nx lc st M' Q) : KK X d k pc lc (.int n :: .int 0 :: .ref q :: .int 0 :: .ref p :: st) M Q := by
  cases hv
  obtain ⟨h1, rfl, h2, h3⟩ := hc
  exact K_acp h (fx_sh hM hs) (fx_sh hM ht) ⟨by decide, by decide, h1, by show 0 + _ ≤ _; omega, by show 0 + _ ≤ _; omega⟩ hl (kk (fx_C hM))
theorem K_aln {p n t : Nat} (h : mfind (mm_cd k) pc = some (.arraylength, nx, a)) (hs : mSH[p]? = some (t, n)) (hM : Fx M) (ht : 20 ≤ t ∧ t ≤ 26) {v : Int32} (hv : Int32.ofNat n = v) (kk : KK X d k nx lc (.int v :: st) M Q) : KK X d k pc lc (.ref p :: st) M Q := K_alen h (fx_sh hM hs) ht (fx_ne hs) hv kk
theorem K_cV {x b : Nat} {s : Nat × Nat} {P : Option Value → mM → Prop} (as rest : List Value) (h : mfind (mm_cd k) pc = some (.invokevirtual x, nx, a)) (hn : mm_np a = as.length) (ha : a < 248) (hl : rest.length ≤ 4) (hs : mSH[b]? = some s) (hM : Fx M) (ho : s.1 = mm_ow a) (he : EV X d a (.ref b :: as) M P) (kk : ∀ v M', P v M' → KK X d k nx lc (v.toList ++ rest) M' Q) : KK X d k pc lc (as.reverse ++ .ref b :: rest) M Q := K_callV as rest h hn ha hl (fx_sh hM hs) ho he kk
end KF
theorem FS_len {X : mX} {b : Nat} (hb : b < 8) (M : mM) : EV X 4 248 [.ref (mstr + b)] M (fun v M' => v = some (.int (Int32.ofNat (mm_sl.getD b 0))) ∧ M' = M) := by
  refine ⟨0, _, _, ?_, rfl, rfl⟩
  rw [mex, if_pos (by decide), if_neg (by decide)]
  show Option.map _ (if mstr ≤ mstr + b ∧ mstr + b < mstr + 8 then _ else _) = _
  rw [if_pos ⟨Nat.le_add_right _ _, Nat.add_lt_add_left hb _⟩, Nat.add_sub_cancel_left]
  rfl
theorem FS_cha {X : mX} {b : Nat} {x : Int32} (hb : b < 8) (M : mM) (hx : mxin x (mm_sl.getD b 0) = true) : EV X 4 249 [.ref (mstr + b), .int x] M (fun v M' => v = some (.int (mm_ch b x)) ∧ M' = M) := by
  refine ⟨0, _, _, ?_, rfl, rfl⟩
  rw [mex, if_pos (by decide), if_neg (by decide)]
  show Option.map _ (if mstr ≤ mstr + b ∧ mstr + b < mstr + 8 ∧ mxin x (mm_sl.getD (mstr + b - mstr) 0) = true then _ else _) = _
  rw [Nat.add_sub_cancel_left, if_pos ⟨Nat.le_add_right _ _, Nat.add_lt_add_left hb _, hx⟩]
  rfl
def f_len (b : Nat) : Int32 := Int32.ofNat (mm_sl.getD b 0)
theorem FS_lenf {X : mX} {b : Nat} (hb : b < 8) (M : mM) : EV X 4 248 [.ref (mstr + b)] M (fun v M' => v = some (.int (f_len b)) ∧ M = M') := by
  obtain ⟨N, v, M', h, h1, h2⟩ := FS_len hb M
  exact ⟨N, v, M', h, h1, h2.symm⟩
def f_cha (b : Nat) (x : Int32) : Option Int32 := if mxin x (mm_sl.getD b 0) = true then some (mm_ch b x) else none
theorem FS_chaf {X : mX} {b : Nat} {x w : Int32} (hb : b < 8) (M : mM) (h : f_cha b x = some w) : EV X 4 249 [.ref (mstr + b), .int x] M (fun v M' => v = some (.int w) ∧ M = M') := by
  unfold f_cha at h
  split at h
  · rename_i g
    rw [← Option.some.inj h]
    obtain ⟨N, v, M', h1, h2, h3⟩ := FS_cha hb M g
    exact ⟨N, v, M', h1, h2, h3.symm⟩
  · cases h
