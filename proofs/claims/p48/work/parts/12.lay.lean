/-! the layout of all cells once they are made -/
def xtyL0 : List (Nat ⊕ (Nat × Nat)) := [.inl 11, .inl 8, .inr (0, 10), .inl 1, .inr (3, 11), .inr (4, 5), .inr (5, 41), .inr (6, 21), .inr (7, 11), .inr (8, 21), .inr (9, 11), .inr (1, 9), .inl 0, .inr (1, 4), .inr (1, 4), .inr (1, 44), .inl 0, .inr (1, 4), .inr (1, 4), .inr (1, 44), .inl 0, .inr (1, 4), .inr (1, 4), .inr (1, 44), .inl 0, .inr (1, 4), .inr (1, 4), .inr (1, 44), .inl 0, .inr (1, 4), .inr (1, 4), .inr (1, 44), .inl 0, .inr (1, 4), .inr (1, 4), .inr (1, 44), .inl 0, .inr (1, 4), .inr (1, 4), .inr (1, 44), .inl 0, .inr (1, 4), .inr (1, 4), .inr (1, 44), .inl 0, .inr (1, 4), .inr (1, 4), .inr (1, 44), .inl 0, .inr (1, 4), .inr (1, 4)]
def xrfL0 : List (List Nat) := [[1, 3, 199, 395, 399], [2], [], [1, 4, 5, 6, 7, 8, 9, 10, 11], [12, 16, 20, 24, 28, 32, 36, 40, 44, 48, 52], [56, 57, 58, 59, 60], [61, 62, 63, 64, 65, 66, 67, 68, 69, 70, 71, 72, 73, 74, 75, 76, 77, 78, 79, 80, 81, 82, 83, 84, 85, 86, 87, 88, 89, 90, 91, 92, 93, 94, 95, 96, 97, 98, 99, 100, 101], [102, 103, 104, 105, 106, 107, 108, 109, 110, 111, 112, 113, 114, 115, 116, 117, 118, 119, 120, 121, 122], [123, 124, 125, 126, 127, 128, 129, 130, 131, 132, 133], [134, 135, 136, 137, 138, 139, 140, 141, 142, 143, 144, 145, 146, 147, 148, 149, 150, 151, 152, 153, 154], [155, 159, 163, 167, 171, 175, 179, 183, 187, 191, 195], [], [0, 0, 0, 0, 0, 0, 0, 0, 0, 13, 14, 15], [], [], [], [0, 0, 0, 0, 0, 0, 0, 0, 0, 17, 18, 19], [], [], [], [0, 0, 0, 0, 0, 0, 0, 0, 0, 21, 22, 23], [], [], [], [0, 0, 0, 0, 0, 0, 0, 0, 0, 25, 26, 27], [], [], [], [0, 0, 0, 0, 0, 0, 0, 0, 0, 29, 30, 31], [], [], [], [0, 0, 0, 0, 0, 0, 0, 0, 0, 33, 34, 35], [], [], [], [0, 0, 0, 0, 0, 0, 0, 0, 0, 37, 38, 39], [], [], [], [0, 0, 0, 0, 0, 0, 0, 0, 0, 41, 42, 43], [], [], [], [0, 0, 0, 0, 0, 0, 0, 0, 0, 45, 46, 47], [], [], [], [0, 0, 0, 0, 0, 0, 0, 0, 0, 49, 50, 51], [], []]
def xtyL1 : List (Nat ⊕ (Nat × Nat)) := [.inr (1, 44), .inl 0, .inr (1, 4), .inr (1, 4), .inr (1, 44), .inl 9, .inl 9, .inl 9, .inl 9, .inl 9, .inl 5, .inl 5, .inl 5, .inl 5, .inl 5, .inl 5, .inl 5, .inl 5, .inl 5, .inl 5, .inl 5, .inl 5, .inl 5, .inl 5, .inl 5, .inl 5, .inl 5, .inl 5, .inl 5, .inl 5, .inl 5, .inl 5, .inl 5, .inl 5, .inl 5, .inl 5, .inl 5, .inl 5, .inl 5, .inl 5, .inl 5, .inl 5, .inl 5, .inl 5, .inl 5, .inl 5, .inl 5, .inl 5, .inl 5, .inl 5, .inl 5]
def xrfL1 : List (List Nat) := [[], [0, 0, 0, 0, 0, 0, 0, 0, 0, 53, 54, 55], [], [], [], [], [], [], [], [], [], [], [], [], [], [], [], [], [], [], [], [], [], [], [], [], [], [], [], [], [], [], [], [], [], [], [], [], [], [], [], [], [], [], [], [], [], [], [], [], []]
def xtyL2 : List (Nat ⊕ (Nat × Nat)) := [.inl 10, .inl 10, .inl 10, .inl 10, .inl 10, .inl 10, .inl 10, .inl 10, .inl 10, .inl 10, .inl 10, .inl 10, .inl 10, .inl 10, .inl 10, .inl 10, .inl 10, .inl 10, .inl 10, .inl 10, .inl 10, .inl 6, .inl 6, .inl 6, .inl 6, .inl 6, .inl 6, .inl 6, .inl 6, .inl 6, .inl 6, .inl 6, .inl 7, .inl 7, .inl 7, .inl 7, .inl 7, .inl 7, .inl 7, .inl 7, .inl 7, .inl 7, .inl 7, .inl 7, .inl 7, .inl 7, .inl 7, .inl 7, .inl 7, .inl 7, .inl 7]
def xrfL2 : List (List Nat) := [[], [], [], [], [], [], [], [], [], [], [], [], [], [], [], [], [], [], [], [], [], [], [], [], [], [], [], [], [], [], [], [], [], [], [], [], [], [], [], [], [], [], [], [], [], [], [], [], [], [], []]
def xtyL3 : List (Nat ⊕ (Nat × Nat)) := [.inl 7, .inl 7, .inl 4, .inr (1, 10), .inr (1, 10), .inr (1, 20), .inl 4, .inr (1, 10), .inr (1, 10), .inr (1, 20), .inl 4, .inr (1, 10), .inr (1, 10), .inr (1, 20), .inl 4, .inr (1, 10), .inr (1, 10), .inr (1, 20), .inl 4, .inr (1, 10), .inr (1, 10), .inr (1, 20), .inl 4, .inr (1, 10), .inr (1, 10), .inr (1, 20), .inl 4, .inr (1, 10), .inr (1, 10), .inr (1, 20), .inl 4, .inr (1, 10), .inr (1, 10), .inr (1, 20), .inl 4, .inr (1, 10), .inr (1, 10), .inr (1, 20), .inl 4, .inr (1, 10), .inr (1, 10), .inr (1, 20), .inl 4, .inr (1, 10), .inr (1, 10), .inr (1, 20), .inl 1, .inr (3, 11), .inr (4, 5), .inr (5, 41), .inr (6, 21)]
def xrfL3 : List (List Nat) := [[], [], [0, 0, 0, 0, 0, 0, 0, 0, 0, 0, 156, 157, 158], [], [], [], [0, 0, 0, 0, 0, 0, 0, 0, 0, 0, 160, 161, 162], [], [], [], [0, 0, 0, 0, 0, 0, 0, 0, 0, 0, 164, 165, 166], [], [], [], [0, 0, 0, 0, 0, 0, 0, 0, 0, 0, 168, 169, 170], [], [], [], [0, 0, 0, 0, 0, 0, 0, 0, 0, 0, 172, 173, 174], [], [], [], [0, 0, 0, 0, 0, 0, 0, 0, 0, 0, 176, 177, 178], [], [], [], [0, 0, 0, 0, 0, 0, 0, 0, 0, 0, 180, 181, 182], [], [], [], [0, 0, 0, 0, 0, 0, 0, 0, 0, 0, 184, 185, 186], [], [], [], [0, 0, 0, 0, 0, 0, 0, 0, 0, 0, 188, 189, 190], [], [], [], [0, 0, 0, 0, 0, 0, 0, 0, 0, 0, 192, 193, 194], [], [], [], [0, 0, 0, 0, 0, 0, 0, 0, 0, 0, 196, 197, 198], [], [], [], [1, 200, 201, 202, 203, 204, 205, 206, 207], [208, 212, 216, 220, 224, 228, 232, 236, 240, 244, 248], [252, 253, 254, 255, 256], [257, 258, 259, 260, 261, 262, 263, 264, 265, 266, 267, 268, 269, 270, 271, 272, 273, 274, 275, 276, 277, 278, 279, 280, 281, 282, 283, 284, 285, 286, 287, 288, 289, 290, 291, 292, 293, 294, 295, 296, 297], [298, 299, 300, 301, 302, 303, 304, 305, 306, 307, 308, 309, 310, 311, 312, 313, 314, 315, 316, 317, 318]]
def xtyL4 : List (Nat ⊕ (Nat × Nat)) := [.inr (7, 11), .inr (8, 21), .inr (9, 11), .inr (1, 9), .inl 0, .inr (1, 4), .inr (1, 4), .inr (1, 44), .inl 0, .inr (1, 4), .inr (1, 4), .inr (1, 44), .inl 0, .inr (1, 4), .inr (1, 4), .inr (1, 44), .inl 0, .inr (1, 4), .inr (1, 4), .inr (1, 44), .inl 0, .inr (1, 4), .inr (1, 4), .inr (1, 44), .inl 0, .inr (1, 4), .inr (1, 4), .inr (1, 44), .inl 0, .inr (1, 4), .inr (1, 4), .inr (1, 44), .inl 0, .inr (1, 4), .inr (1, 4), .inr (1, 44), .inl 0, .inr (1, 4), .inr (1, 4), .inr (1, 44), .inl 0, .inr (1, 4), .inr (1, 4), .inr (1, 44), .inl 0, .inr (1, 4), .inr (1, 4), .inr (1, 44), .inl 9, .inl 9, .inl 9]
def xrfL4 : List (List Nat) := [[319, 320, 321, 322, 323, 324, 325, 326, 327, 328, 329], [330, 331, 332, 333, 334, 335, 336, 337, 338, 339, 340, 341, 342, 343, 344, 345, 346, 347, 348, 349, 350], [351, 355, 359, 363, 367, 371, 375, 379, 383, 387, 391], [], [0, 0, 0, 0, 0, 0, 0, 0, 0, 209, 210, 211], [], [], [], [0, 0, 0, 0, 0, 0, 0, 0, 0, 213, 214, 215], [], [], [], [0, 0, 0, 0, 0, 0, 0, 0, 0, 217, 218, 219], [], [], [], [0, 0, 0, 0, 0, 0, 0, 0, 0, 221, 222, 223], [], [], [], [0, 0, 0, 0, 0, 0, 0, 0, 0, 225, 226, 227], [], [], [], [0, 0, 0, 0, 0, 0, 0, 0, 0, 229, 230, 231], [], [], [], [0, 0, 0, 0, 0, 0, 0, 0, 0, 233, 234, 235], [], [], [], [0, 0, 0, 0, 0, 0, 0, 0, 0, 237, 238, 239], [], [], [], [0, 0, 0, 0, 0, 0, 0, 0, 0, 241, 242, 243], [], [], [], [0, 0, 0, 0, 0, 0, 0, 0, 0, 245, 246, 247], [], [], [], [0, 0, 0, 0, 0, 0, 0, 0, 0, 249, 250, 251], [], [], [], [], [], []]
def xtyL5 : List (Nat ⊕ (Nat × Nat)) := [.inl 9, .inl 9, .inl 5, .inl 5, .inl 5, .inl 5, .inl 5, .inl 5, .inl 5, .inl 5, .inl 5, .inl 5, .inl 5, .inl 5, .inl 5, .inl 5, .inl 5, .inl 5, .inl 5, .inl 5, .inl 5, .inl 5, .inl 5, .inl 5, .inl 5, .inl 5, .inl 5, .inl 5, .inl 5, .inl 5, .inl 5, .inl 5, .inl 5, .inl 5, .inl 5, .inl 5, .inl 5, .inl 5, .inl 5, .inl 5, .inl 5, .inl 5, .inl 5, .inl 10, .inl 10, .inl 10, .inl 10, .inl 10, .inl 10, .inl 10, .inl 10]
def xrfL5 : List (List Nat) := [[], [], [], [], [], [], [], [], [], [], [], [], [], [], [], [], [], [], [], [], [], [], [], [], [], [], [], [], [], [], [], [], [], [], [], [], [], [], [], [], [], [], [], [], [], [], [], [], [], [], []]
def xtyL6 : List (Nat ⊕ (Nat × Nat)) := [.inl 10, .inl 10, .inl 10, .inl 10, .inl 10, .inl 10, .inl 10, .inl 10, .inl 10, .inl 10, .inl 10, .inl 10, .inl 10, .inl 6, .inl 6, .inl 6, .inl 6, .inl 6, .inl 6, .inl 6, .inl 6, .inl 6, .inl 6, .inl 6, .inl 7, .inl 7, .inl 7, .inl 7, .inl 7, .inl 7, .inl 7, .inl 7, .inl 7, .inl 7, .inl 7, .inl 7, .inl 7, .inl 7, .inl 7, .inl 7, .inl 7, .inl 7, .inl 7, .inl 7, .inl 7, .inl 4, .inr (1, 10), .inr (1, 10), .inr (1, 20), .inl 4, .inr (1, 10)]
def xrfL6 : List (List Nat) := [[], [], [], [], [], [], [], [], [], [], [], [], [], [], [], [], [], [], [], [], [], [], [], [], [], [], [], [], [], [], [], [], [], [], [], [], [], [], [], [], [], [], [], [], [], [0, 0, 0, 0, 0, 0, 0, 0, 0, 0, 352, 353, 354], [], [], [], [0, 0, 0, 0, 0, 0, 0, 0, 0, 0, 356, 357, 358], []]
def xtyL7 : List (Nat ⊕ (Nat × Nat)) := [.inr (1, 10), .inr (1, 20), .inl 4, .inr (1, 10), .inr (1, 10), .inr (1, 20), .inl 4, .inr (1, 10), .inr (1, 10), .inr (1, 20), .inl 4, .inr (1, 10), .inr (1, 10), .inr (1, 20), .inl 4, .inr (1, 10), .inr (1, 10), .inr (1, 20), .inl 4, .inr (1, 10), .inr (1, 10), .inr (1, 20), .inl 4, .inr (1, 10), .inr (1, 10), .inr (1, 20), .inl 4, .inr (1, 10), .inr (1, 10), .inr (1, 20), .inl 4, .inr (1, 10), .inr (1, 10), .inr (1, 20), .inl 4, .inr (1, 10), .inr (1, 10), .inr (1, 20), .inl 2, .inr (0, 20), .inr (1, 11), .inr (1, 10), .inl 3, .inr (0, 5)]
def xrfL7 : List (List Nat) := [[], [], [0, 0, 0, 0, 0, 0, 0, 0, 0, 0, 360, 361, 362], [], [], [], [0, 0, 0, 0, 0, 0, 0, 0, 0, 0, 364, 365, 366], [], [], [], [0, 0, 0, 0, 0, 0, 0, 0, 0, 0, 368, 369, 370], [], [], [], [0, 0, 0, 0, 0, 0, 0, 0, 0, 0, 372, 373, 374], [], [], [], [0, 0, 0, 0, 0, 0, 0, 0, 0, 0, 376, 377, 378], [], [], [], [0, 0, 0, 0, 0, 0, 0, 0, 0, 0, 380, 381, 382], [], [], [], [0, 0, 0, 0, 0, 0, 0, 0, 0, 0, 384, 385, 386], [], [], [], [0, 0, 0, 0, 0, 0, 0, 0, 0, 0, 388, 389, 390], [], [], [], [0, 0, 0, 0, 0, 0, 0, 0, 0, 0, 392, 393, 394], [], [], [], [3, 396, 397, 398], [], [], [], [3], []]
def xLty (c : Nat) : Nat ⊕ (Nat × Nat) := if c < 51 then xtyL0.getD (c - 0) (.inl 99) else (if c < 102 then xtyL1.getD (c - 51) (.inl 99) else (if c < 153 then xtyL2.getD (c - 102) (.inl 99) else (if c < 204 then xtyL3.getD (c - 153) (.inl 99) else (if c < 255 then xtyL4.getD (c - 204) (.inl 99) else (if c < 306 then xtyL5.getD (c - 255) (.inl 99) else (if c < 357 then xtyL6.getD (c - 306) (.inl 99) else (xtyL7.getD (c - 357) (.inl 99))))))))
def xLrr (c : Nat) : List Nat := if c < 51 then xrfL0.getD (c - 0) ([]) else (if c < 102 then xrfL1.getD (c - 51) ([]) else (if c < 153 then xrfL2.getD (c - 102) ([]) else (if c < 204 then xrfL3.getD (c - 153) ([]) else (if c < 255 then xrfL4.getD (c - 204) ([]) else (if c < 306 then xrfL5.getD (c - 255) ([]) else (if c < 357 then xrfL6.getD (c - 306) ([]) else (xrfL7.getD (c - 357) ([]))))))))
def xr (c k : Nat) : Nat := (xLrr c).getD k 0
def xLrf (c k : Nat) : Option Nat := match xr c k with
  | 0 => none
  | n + 1 => some (n + 1)
def xln (c : Nat) : Nat := match xLty c with
  | .inr (_, n) => n
  | _ => 0
def xOb (ci c : Nat) : Prop := xLty c = .inl ci
def xAn (a n c : Nat) : Prop := xLty c = .inr (a, n)
theorem xAn.ln {a n c : Nat} (h : xAn a n c) : xln c = n := by unfold xln; rw [show xLty c = .inr (a, n) from h]
theorem xAn.l {a n c : Nat} (h : xAn a n c) : xAn a (xln c) c := by rw [h.ln]; exact h
theorem xLty_out : ∀ c, 401 ≤ c → xLty c = .inl 99 := by
  intro c h
  unfold xLty
  rw [if_neg (show ¬ c < 51 by omega), if_neg (show ¬ c < 102 by omega), if_neg (show ¬ c < 153 by omega), if_neg (show ¬ c < 204 by omega), if_neg (show ¬ c < 255 by omega), if_neg (show ¬ c < 306 by omega), if_neg (show ¬ c < 357 by omega)]
  rw [List.getD_eq_getElem?_getD, List.getElem?_eq_none (by show 44 ≤ _; omega)]
  rfl
theorem xln_le (c : Nat) : xln c ≤ 2147483648 := by
  by_cases h : c < 401
  · exact (show ∀ c : Nat, c < 401 → xln c ≤ 2147483648 by decide +kernel) c h
  · unfold xln; rw [xLty_out c (by omega)]; exact Nat.zero_le _
theorem xln_lt (c : Nat) : xln c < 2147483648 := by
  by_cases h : c < 401
  · exact (show ∀ c : Nat, c < 401 → xln c < 2147483648 by decide +kernel) c h
  · unfold xln; rw [xLty_out c (by omega)]; exact (by decide)
theorem xAn.le {a n c : Nat} (h : xAn a n c) : n ≤ 2147483648 := by rw [← h.ln]; exact xln_le c
theorem xOb.lt {ci c : Nat} (h : xOb ci c) (hc : ci ≠ 99) : c < 401 := by
  rcases Nat.lt_or_ge c 401 with q | q
  · exact q
  · exact absurd (Sum.inl.inj ((show xLty c = .inl ci from h).symm.trans (xLty_out c q))) hc
theorem xAn.lt {a n c : Nat} (h : xAn a n c) : c < 401 := by
  rcases Nat.lt_or_ge c 401 with q | q
  · exact q
  · cases (show xLty c = .inr (a, n) from h).symm.trans (xLty_out c q)
theorem xr_out {c k : Nat} (h : 401 ≤ c) : xr c k = 0 := by
  unfold xr xLrr
  rw [if_neg (show ¬ c < 51 by omega), if_neg (show ¬ c < 102 by omega), if_neg (show ¬ c < 153 by omega), if_neg (show ¬ c < 204 by omega), if_neg (show ¬ c < 255 by omega), if_neg (show ¬ c < 306 by omega), if_neg (show ¬ c < 357 by omega), List.getD_eq_getElem?_getD (l := xrfL7), List.getElem?_eq_none (by show 44 ≤ _; omega)]
  rfl
theorem xLrf_out {c k : Nat} (h : 401 ≤ c) : xLrf c k = none := by unfold xLrf; rw [xr_out h]
theorem xr_lt (c k : Nat) : xr c k < 400 := by
  by_cases h : c < 401
  · by_cases hk : k < 45
    · exact (show ∀ c : Nat, c < 401 → ∀ k : Nat, k < 45 → xr c k < 400 by decide +kernel) c h k hk
    · unfold xr; rw [List.getD_eq_getElem?_getD, List.getElem?_eq_none (by have := (show ∀ c : Nat, c < 401 → (xLrr c).length ≤ 45 by decide +kernel) c h; omega)]; decide
  · rw [xr_out (by omega)]; decide
/-- how many cells there are: the class's and the law's numbers, then what was told -/
def xGn (G : xG) : Nat := max 401 (G.2.2.2.2 7)
def xty (c : Nat) : Nat ⊕ (Nat × Nat) := if c < 401 then xLty c else .inr (1, 60)
def xLG (G : xG) : xL := (xGn G, fun c => if c < xGn G then xty c else .inl 99, xLrf)
def setN (G : xG) (N : Nat) : xG := (G.1, G.2.1, G.2.2.1, G.2.2.2.1, fun i => if i = 7 then N else G.2.2.2.2 i)
theorem xGn_ge (G : xG) : 401 ≤ xGn G := Nat.le_max_left _ _
theorem xGn_set {G : xG} {N : Nat} (h : 401 ≤ N) : xGn (setN G N) = N := Nat.max_eq_right h
def xTa (G : xG) (c : Nat) : Prop := 401 ≤ c ∧ c < xGn G
theorem xlg_o {G : xG} {ci c : Nat} (h : xOb ci c) (hc : ci ≠ 99) : (xLG G).2.1 c = .inl ci := by
  have h1 := h.lt hc
  have h2 := xGn_ge G
  show (if c < xGn G then xty c else _) = _
  rw [if_pos (by omega)]; unfold xty; rw [if_pos h1]; exact h
theorem xlg_a {G : xG} {a n c : Nat} (h : xAn a n c) : (xLG G).2.1 c = .inr (a, n) := by
  have h1 := h.lt
  have h2 := xGn_ge G
  show (if c < xGn G then xty c else _) = _
  rw [if_pos (by omega)]; unfold xty; rw [if_pos h1]; exact h
theorem xlg_t {G : xG} {c : Nat} (h : xTa G c) : (xLG G).2.1 c = .inr (1, 60) := by
  show (if c < xGn G then xty c else _) = _
  rw [if_pos h.2]; unfold xty; rw [if_neg (by have := h.1; omega)]
theorem xlg_new {G : xG} {M : xM} (hn : 401 ≤ xGn G) : xnew (xLG G, M) (.inr (1, 60)) = (xLG (setN G (xGn G + 1)), fun a b => if a = xGn G then 0 else M a b) := by
  have e : xGn (setN G (xGn G + 1)) = xGn G + 1 := xGn_set (by omega)
  unfold xnew xLG
  rw [e]
  refine Prod.ext (Prod.ext rfl (Prod.ext ?_ ?_)) rfl
  · funext c
    show (if c = xGn G then _ else if c < xGn G then xty c else _) = if c < xGn G + 1 then xty c else _
    by_cases q : c = xGn G
    · rw [if_pos q, if_pos (by omega)]; unfold xty; rw [if_neg (by omega)]
    · rw [if_neg q]
      by_cases q2 : c < xGn G
      · rw [if_pos q2, if_pos (by omega)]
      · rw [if_neg q2, if_neg (by omega)]
  · funext c k
    show (if c = xGn G then none else xLrf c k) = xLrf c k
    by_cases q : c = xGn G
    · rw [if_pos q, xLrf_out (by omega)]
    · rw [if_neg q]
theorem xt_0_9 {c : Nat} (h : xOb 0 c) : xLrf c 9 = some (xr c 9) ∧ xAn 1 4 (xr c 9) :=
  (show ∀ c : Nat, c < 401 → xLty c = .inl 0 → xLrf c 9 = some (xr c 9) ∧ xLty (xr c 9) = .inr (1, 4) by decide +kernel) c (h.lt (by decide)) h
theorem xt_0_10 {c : Nat} (h : xOb 0 c) : xLrf c 10 = some (xr c 10) ∧ xAn 1 4 (xr c 10) :=
  (show ∀ c : Nat, c < 401 → xLty c = .inl 0 → xLrf c 10 = some (xr c 10) ∧ xLty (xr c 10) = .inr (1, 4) by decide +kernel) c (h.lt (by decide)) h
theorem xt_0_11 {c : Nat} (h : xOb 0 c) : xLrf c 11 = some (xr c 11) ∧ xAn 1 44 (xr c 11) :=
  (show ∀ c : Nat, c < 401 → xLty c = .inl 0 → xLrf c 11 = some (xr c 11) ∧ xLty (xr c 11) = .inr (1, 44) by decide +kernel) c (h.lt (by decide)) h
theorem xt_1_0 {c : Nat} (h : xOb 1 c) : xLrf c 0 = some (xr c 0) ∧ xOb 8 (xr c 0) :=
  (show ∀ c : Nat, c < 401 → xLty c = .inl 1 → xLrf c 0 = some (xr c 0) ∧ xLty (xr c 0) = .inl 8 by decide +kernel) c (h.lt (by decide)) h
theorem xt_1_1 {c : Nat} (h : xOb 1 c) : xLrf c 1 = some (xr c 1) ∧ xAn 3 11 (xr c 1) :=
  (show ∀ c : Nat, c < 401 → xLty c = .inl 1 → xLrf c 1 = some (xr c 1) ∧ xLty (xr c 1) = .inr (3, 11) by decide +kernel) c (h.lt (by decide)) h
theorem xt_1_2 {c : Nat} (h : xOb 1 c) : xLrf c 2 = some (xr c 2) ∧ xAn 4 5 (xr c 2) :=
  (show ∀ c : Nat, c < 401 → xLty c = .inl 1 → xLrf c 2 = some (xr c 2) ∧ xLty (xr c 2) = .inr (4, 5) by decide +kernel) c (h.lt (by decide)) h
theorem xt_1_3 {c : Nat} (h : xOb 1 c) : xLrf c 3 = some (xr c 3) ∧ xAn 5 41 (xr c 3) :=
  (show ∀ c : Nat, c < 401 → xLty c = .inl 1 → xLrf c 3 = some (xr c 3) ∧ xLty (xr c 3) = .inr (5, 41) by decide +kernel) c (h.lt (by decide)) h
theorem xt_1_4 {c : Nat} (h : xOb 1 c) : xLrf c 4 = some (xr c 4) ∧ xAn 6 21 (xr c 4) :=
  (show ∀ c : Nat, c < 401 → xLty c = .inl 1 → xLrf c 4 = some (xr c 4) ∧ xLty (xr c 4) = .inr (6, 21) by decide +kernel) c (h.lt (by decide)) h
theorem xt_1_5 {c : Nat} (h : xOb 1 c) : xLrf c 5 = some (xr c 5) ∧ xAn 7 11 (xr c 5) :=
  (show ∀ c : Nat, c < 401 → xLty c = .inl 1 → xLrf c 5 = some (xr c 5) ∧ xLty (xr c 5) = .inr (7, 11) by decide +kernel) c (h.lt (by decide)) h
theorem xt_1_6 {c : Nat} (h : xOb 1 c) : xLrf c 6 = some (xr c 6) ∧ xAn 8 21 (xr c 6) :=
  (show ∀ c : Nat, c < 401 → xLty c = .inl 1 → xLrf c 6 = some (xr c 6) ∧ xLty (xr c 6) = .inr (8, 21) by decide +kernel) c (h.lt (by decide)) h
theorem xt_1_7 {c : Nat} (h : xOb 1 c) : xLrf c 7 = some (xr c 7) ∧ xAn 9 11 (xr c 7) :=
  (show ∀ c : Nat, c < 401 → xLty c = .inl 1 → xLrf c 7 = some (xr c 7) ∧ xLty (xr c 7) = .inr (9, 11) by decide +kernel) c (h.lt (by decide)) h
theorem xt_1_8 {c : Nat} (h : xOb 1 c) : xLrf c 8 = some (xr c 8) ∧ xAn 1 9 (xr c 8) :=
  (show ∀ c : Nat, c < 401 → xLty c = .inl 1 → xLrf c 8 = some (xr c 8) ∧ xLty (xr c 8) = .inr (1, 9) by decide +kernel) c (h.lt (by decide)) h
theorem xt_2_0 {c : Nat} (h : xOb 2 c) : xLrf c 0 = some (xr c 0) ∧ xOb 1 (xr c 0) :=
  (show ∀ c : Nat, c < 401 → xLty c = .inl 2 → xLrf c 0 = some (xr c 0) ∧ xLty (xr c 0) = .inl 1 by decide +kernel) c (h.lt (by decide)) h
theorem xt_2_1 {c : Nat} (h : xOb 2 c) : xLrf c 1 = some (xr c 1) ∧ xAn 0 20 (xr c 1) :=
  (show ∀ c : Nat, c < 401 → xLty c = .inl 2 → xLrf c 1 = some (xr c 1) ∧ xLty (xr c 1) = .inr (0, 20) by decide +kernel) c (h.lt (by decide)) h
theorem xt_2_2 {c : Nat} (h : xOb 2 c) : xLrf c 2 = some (xr c 2) ∧ xAn 1 11 (xr c 2) :=
  (show ∀ c : Nat, c < 401 → xLty c = .inl 2 → xLrf c 2 = some (xr c 2) ∧ xLty (xr c 2) = .inr (1, 11) by decide +kernel) c (h.lt (by decide)) h
theorem xt_2_3 {c : Nat} (h : xOb 2 c) : xLrf c 3 = some (xr c 3) ∧ xAn 1 10 (xr c 3) :=
  (show ∀ c : Nat, c < 401 → xLty c = .inl 2 → xLrf c 3 = some (xr c 3) ∧ xLty (xr c 3) = .inr (1, 10) by decide +kernel) c (h.lt (by decide)) h
theorem xt_3_0 {c : Nat} (h : xOb 3 c) : xLrf c 0 = some (xr c 0) ∧ xOb 1 (xr c 0) :=
  (show ∀ c : Nat, c < 401 → xLty c = .inl 3 → xLrf c 0 = some (xr c 0) ∧ xLty (xr c 0) = .inl 1 by decide +kernel) c (h.lt (by decide)) h
theorem xt_4_10 {c : Nat} (h : xOb 4 c) : xLrf c 10 = some (xr c 10) ∧ xAn 1 10 (xr c 10) :=
  (show ∀ c : Nat, c < 401 → xLty c = .inl 4 → xLrf c 10 = some (xr c 10) ∧ xLty (xr c 10) = .inr (1, 10) by decide +kernel) c (h.lt (by decide)) h
theorem xt_4_11 {c : Nat} (h : xOb 4 c) : xLrf c 11 = some (xr c 11) ∧ xAn 1 10 (xr c 11) :=
  (show ∀ c : Nat, c < 401 → xLty c = .inl 4 → xLrf c 11 = some (xr c 11) ∧ xLty (xr c 11) = .inr (1, 10) by decide +kernel) c (h.lt (by decide)) h
theorem xt_4_12 {c : Nat} (h : xOb 4 c) : xLrf c 12 = some (xr c 12) ∧ xAn 1 20 (xr c 12) :=
  (show ∀ c : Nat, c < 401 → xLty c = .inl 4 → xLrf c 12 = some (xr c 12) ∧ xLty (xr c 12) = .inr (1, 20) by decide +kernel) c (h.lt (by decide)) h
theorem xt_8_0 {c : Nat} (h : xOb 8 c) : xLrf c 0 = some (xr c 0) ∧ xAn 0 10 (xr c 0) :=
  (show ∀ c : Nat, c < 401 → xLty c = .inl 8 → xLrf c 0 = some (xr c 0) ∧ xLty (xr c 0) = .inr (0, 10) by decide +kernel) c (h.lt (by decide)) h
theorem xt_11_0 {c : Nat} (h : xOb 11 c) : xLrf c 0 = some (xr c 0) ∧ xOb 8 (xr c 0) :=
  (show ∀ c : Nat, c < 401 → xLty c = .inl 11 → xLrf c 0 = some (xr c 0) ∧ xLty (xr c 0) = .inl 8 by decide +kernel) c (h.lt (by decide)) h
theorem xt_11_1 {c : Nat} (h : xOb 11 c) : xLrf c 1 = some (xr c 1) ∧ xOb 1 (xr c 1) :=
  (show ∀ c : Nat, c < 401 → xLty c = .inl 11 → xLrf c 1 = some (xr c 1) ∧ xLty (xr c 1) = .inl 1 by decide +kernel) c (h.lt (by decide)) h
theorem xt_11_2 {c : Nat} (h : xOb 11 c) : xLrf c 2 = some (xr c 2) ∧ xOb 1 (xr c 2) :=
  (show ∀ c : Nat, c < 401 → xLty c = .inl 11 → xLrf c 2 = some (xr c 2) ∧ xLty (xr c 2) = .inl 1 by decide +kernel) c (h.lt (by decide)) h
theorem xt_11_3 {c : Nat} (h : xOb 11 c) : xLrf c 3 = some (xr c 3) ∧ xOb 2 (xr c 3) :=
  (show ∀ c : Nat, c < 401 → xLty c = .inl 11 → xLrf c 3 = some (xr c 3) ∧ xLty (xr c 3) = .inl 2 by decide +kernel) c (h.lt (by decide)) h
theorem xt_11_4 {c : Nat} (h : xOb 11 c) : xLrf c 4 = some (xr c 4) ∧ xOb 3 (xr c 4) :=
  (show ∀ c : Nat, c < 401 → xLty c = .inl 11 → xLrf c 4 = some (xr c 4) ∧ xLty (xr c 4) = .inl 3 by decide +kernel) c (h.lt (by decide)) h
theorem xe_3 {n c i : Nat} (h : xAn 3 n c) (hi : i < n) : xLrf c i = some (xr c i) ∧ xOb 0 (xr c i) :=
  have h1 : xAn 3 (xln c) c := h.l
  have hn : xln c = 11 := (show ∀ c : Nat, c < 401 → xLty c = .inr (3, xln c) → xln c = 11 by decide +kernel) c h.lt h1
  (show ∀ c : Nat, c < 401 → xLty c = .inr (3, 11) → ∀ i : Nat, i < 11 → xLrf c i = some (xr c i) ∧ xLty (xr c i) = .inl 0 by decide +kernel) c h.lt (by rw [hn] at h1; exact h1) i (by rw [← hn, h.ln]; exact hi)
theorem xe_4 {n c i : Nat} (h : xAn 4 n c) (hi : i < n) : xLrf c i = some (xr c i) ∧ xOb 9 (xr c i) :=
  have h1 : xAn 4 (xln c) c := h.l
  have hn : xln c = 5 := (show ∀ c : Nat, c < 401 → xLty c = .inr (4, xln c) → xln c = 5 by decide +kernel) c h.lt h1
  (show ∀ c : Nat, c < 401 → xLty c = .inr (4, 5) → ∀ i : Nat, i < 5 → xLrf c i = some (xr c i) ∧ xLty (xr c i) = .inl 9 by decide +kernel) c h.lt (by rw [hn] at h1; exact h1) i (by rw [← hn, h.ln]; exact hi)
theorem xe_5 {n c i : Nat} (h : xAn 5 n c) (hi : i < n) : xLrf c i = some (xr c i) ∧ xOb 5 (xr c i) :=
  have h1 : xAn 5 (xln c) c := h.l
  have hn : xln c = 41 := (show ∀ c : Nat, c < 401 → xLty c = .inr (5, xln c) → xln c = 41 by decide +kernel) c h.lt h1
  (show ∀ c : Nat, c < 401 → xLty c = .inr (5, 41) → ∀ i : Nat, i < 41 → xLrf c i = some (xr c i) ∧ xLty (xr c i) = .inl 5 by decide +kernel) c h.lt (by rw [hn] at h1; exact h1) i (by rw [← hn, h.ln]; exact hi)
theorem xe_6 {n c i : Nat} (h : xAn 6 n c) (hi : i < n) : xLrf c i = some (xr c i) ∧ xOb 10 (xr c i) :=
  have h1 : xAn 6 (xln c) c := h.l
  have hn : xln c = 21 := (show ∀ c : Nat, c < 401 → xLty c = .inr (6, xln c) → xln c = 21 by decide +kernel) c h.lt h1
  (show ∀ c : Nat, c < 401 → xLty c = .inr (6, 21) → ∀ i : Nat, i < 21 → xLrf c i = some (xr c i) ∧ xLty (xr c i) = .inl 10 by decide +kernel) c h.lt (by rw [hn] at h1; exact h1) i (by rw [← hn, h.ln]; exact hi)
theorem xe_7 {n c i : Nat} (h : xAn 7 n c) (hi : i < n) : xLrf c i = some (xr c i) ∧ xOb 6 (xr c i) :=
  have h1 : xAn 7 (xln c) c := h.l
  have hn : xln c = 11 := (show ∀ c : Nat, c < 401 → xLty c = .inr (7, xln c) → xln c = 11 by decide +kernel) c h.lt h1
  (show ∀ c : Nat, c < 401 → xLty c = .inr (7, 11) → ∀ i : Nat, i < 11 → xLrf c i = some (xr c i) ∧ xLty (xr c i) = .inl 6 by decide +kernel) c h.lt (by rw [hn] at h1; exact h1) i (by rw [← hn, h.ln]; exact hi)
theorem xe_8 {n c i : Nat} (h : xAn 8 n c) (hi : i < n) : xLrf c i = some (xr c i) ∧ xOb 7 (xr c i) :=
  have h1 : xAn 8 (xln c) c := h.l
  have hn : xln c = 21 := (show ∀ c : Nat, c < 401 → xLty c = .inr (8, xln c) → xln c = 21 by decide +kernel) c h.lt h1
  (show ∀ c : Nat, c < 401 → xLty c = .inr (8, 21) → ∀ i : Nat, i < 21 → xLrf c i = some (xr c i) ∧ xLty (xr c i) = .inl 7 by decide +kernel) c h.lt (by rw [hn] at h1; exact h1) i (by rw [← hn, h.ln]; exact hi)
theorem xe_9 {n c i : Nat} (h : xAn 9 n c) (hi : i < n) : xLrf c i = some (xr c i) ∧ xOb 4 (xr c i) :=
  have h1 : xAn 9 (xln c) c := h.l
  have hn : xln c = 11 := (show ∀ c : Nat, c < 401 → xLty c = .inr (9, xln c) → xln c = 11 by decide +kernel) c h.lt h1
  (show ∀ c : Nat, c < 401 → xLty c = .inr (9, 11) → ∀ i : Nat, i < 11 → xLrf c i = some (xr c i) ∧ xLty (xr c i) = .inl 4 by decide +kernel) c h.lt (by rw [hn] at h1; exact h1) i (by rw [← hn, h.ln]; exact hi)
