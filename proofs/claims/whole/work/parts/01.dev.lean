abbrev xM : Type := Nat → Nat → Int
abbrev iv (z : Int) : Value := .int (Int32.ofInt z)
abbrev jv (z : Int) : Value := .long (Int64.ofInt z)
def w32 (z : Int) : Int := (Int32.ofInt z).toInt
def w64 (z : Int) : Int := (Int64.ofInt z).toInt
theorem w32_of {z : Int} (h1 : -2147483648 ≤ z) (h2 : z < 2147483648) : w32 z = z := Int32.toInt_ofInt_of_le (by simpa using h1) (by simpa using h2)
theorem w64_of {z : Int} (h1 : -9223372036854775808 ≤ z) (h2 : z < 9223372036854775808) : w64 z = z := Int64.toInt_ofInt_of_le (by simpa using h1) (by simpa using h2)
def xft (ci : Nat) : List Nat := match ci with
  | 0 => [0, 0, 1, 1, 1, 2, 2, 2, 2, 3, 3, 3]
  | 1 => [3, 3, 3, 3, 3, 3, 3, 3, 3, 0, 0, 0, 0, 0, 0, 0, 0, 0]
  | 2 => [3, 3, 3, 3, 0, 0, 0, 2, 0, 0, 2]
  | 3 => [3]
  | 4 => [0, 0, 0, 0, 0, 0, 0, 1, 1, 0, 3, 3, 3]
  | 5 => [0, 0, 1, 0, 0, 0, 0, 0, 0, 0, 0, 1, 1]
  | 6 => [0, 0, 1]
  | 7 => [0, 0, 0, 2, 2, 1, 1]
  | 8 => [3]
  | 9 => [0, 0, 0, 2]
  | 10 => [0, 0, 0, 0, 0, 0, 2, 2, 2, 0, 0, 0, 0]
  | 11 => [3, 3, 3, 3, 3, 1]
  | 12 => [3, 3, 1, 3, 3, 0, 3, 0]
  | _ => []
def xup {α : Type} (m : Nat → Nat → α) (c k : Nat) (v : α) : Nat → Nat → α := fun a b => if a = c ∧ b = k then v else m a b
theorem xup_same {α : Type} {m : Nat → Nat → α} {c k : Nat} {v : α} : xup m c k v c k = v := by simp [xup]
theorem xup_ne {α : Type} {m : Nat → Nat → α} {c k a b : Nat} {v : α} (h : ¬ (a = c ∧ b = k)) : xup m c k v a b = m a b := by simp [xup, h]
theorem xup_row {α : Type} {m : Nat → Nat → α} {c k a : Nat} {v : α} (h : a ≠ c) : xup m c k v a = m a := by funext b; exact xup_ne (fun z => h z.1)
def xcpy (m : xM) (c0 c1 k : Nat) : xM := fun a j => if a = c1 ∧ j < k then m c0 j else m a j
def xtyL0 : List (Nat ⊕ (Nat × Nat)) := [.inl 11, .inl 8, .inr (0, 10), .inl 1, .inr (3, 11), .inr (4, 5), .inr (5, 41), .inr (6, 21), .inr (7, 11), .inr (8, 21), .inr (9, 11), .inr (1, 9), .inl 0, .inr (1, 4), .inr (1, 4), .inr (1, 44), .inl 0, .inr (1, 4), .inr (1, 4), .inr (1, 44), .inl 0, .inr (1, 4), .inr (1, 4), .inr (1, 44), .inl 0, .inr (1, 4), .inr (1, 4), .inr (1, 44), .inl 0, .inr (1, 4), .inr (1, 4), .inr (1, 44), .inl 0, .inr (1, 4), .inr (1, 4), .inr (1, 44), .inl 0, .inr (1, 4), .inr (1, 4), .inr (1, 44), .inl 0, .inr (1, 4), .inr (1, 4), .inr (1, 44), .inl 0, .inr (1, 4), .inr (1, 4), .inr (1, 44), .inl 0, .inr (1, 4), .inr (1, 4)]
def xrfL0 : List (List Nat) := [[1, 3, 199, 395, 399], [2], [], [1, 4, 5, 6, 7, 8, 9, 10, 11], [12, 16, 20, 24, 28, 32, 36, 40, 44, 48, 52], [56, 57, 58, 59, 60], [61, 62, 63, 64, 65, 66, 67, 68, 69, 70, 71, 72, 73, 74, 75, 76, 77, 78, 79, 80, 81, 82, 83, 84, 85, 86, 87, 88, 89, 90, 91, 92, 93, 94, 95, 96, 97, 98, 99, 100, 101], [102, 103, 104, 105, 106, 107, 108, 109, 110, 111, 112, 113, 114, 115, 116, 117, 118, 119, 120, 121, 122], [123, 124, 125, 126, 127, 128, 129, 130, 131, 132, 133], [134, 135, 136, 137, 138, 139, 140, 141, 142, 143, 144, 145, 146, 147, 148, 149, 150, 151, 152, 153, 154], [155, 159, 163, 167, 171, 175, 179, 183, 187, 191, 195], [], [0, 0, 0, 0, 0, 0, 0, 0, 0, 13, 14, 15], [], [], [], [0, 0, 0, 0, 0, 0, 0, 0, 0, 17, 18, 19], [], [], [], [0, 0, 0, 0, 0, 0, 0, 0, 0, 21, 22, 23], [], [], [], [0, 0, 0, 0, 0, 0, 0, 0, 0, 25, 26, 27], [], [], [], [0, 0, 0, 0, 0, 0, 0, 0, 0, 29, 30, 31], [], [], [], [0, 0, 0, 0, 0, 0, 0, 0, 0, 33, 34, 35], [], [], [], [0, 0, 0, 0, 0, 0, 0, 0, 0, 37, 38, 39], [], [], [], [0, 0, 0, 0, 0, 0, 0, 0, 0, 41, 42, 43], [], [], [], [0, 0, 0, 0, 0, 0, 0, 0, 0, 45, 46, 47], [], [], [], [0, 0, 0, 0, 0, 0, 0, 0, 0, 49, 50, 51], [], []]
def xtyL1 : List (Nat ⊕ (Nat × Nat)) := [.inr (1, 44), .inl 0, .inr (1, 4), .inr (1, 4), .inr (1, 44), .inl 9, .inl 9, .inl 9, .inl 9, .inl 9, .inl 5, .inl 5, .inl 5, .inl 5, .inl 5, .inl 5, .inl 5, .inl 5, .inl 5, .inl 5, .inl 5, .inl 5, .inl 5, .inl 5, .inl 5, .inl 5, .inl 5, .inl 5, .inl 5, .inl 5, .inl 5, .inl 5, .inl 5, .inl 5, .inl 5, .inl 5, .inl 5, .inl 5, .inl 5, .inl 5, .inl 5, .inl 5, .inl 5, .inl 5, .inl 5, .inl 5, .inl 5, .inl 5, .inl 5, .inl 5, .inl 5]
def xrfL1 : List (List Nat) := [[], [0, 0, 0, 0, 0, 0, 0, 0, 0, 53, 54, 55], [], [], [], [], [], [], [], [], [], [], [], [], [], [], [], [], [], [], [], [], [], [], [], [], [], [], [], [], [], [], [], [], [], [], [], [], [], [], [], [], [], [], [], [], [], [], [], [], []]
def xtyL2 : List (Nat ⊕ (Nat × Nat)) := [.inl 10, .inl 10, .inl 10, .inl 10, .inl 10, .inl 10, .inl 10, .inl 10, .inl 10, .inl 10, .inl 10, .inl 10, .inl 10, .inl 10, .inl 10, .inl 10, .inl 10, .inl 10, .inl 10, .inl 10, .inl 10, .inl 6, .inl 6, .inl 6, .inl 6, .inl 6, .inl 6, .inl 6, .inl 6, .inl 6, .inl 6, .inl 6, .inl 7, .inl 7, .inl 7, .inl 7, .inl 7, .inl 7, .inl 7, .inl 7, .inl 7, .inl 7, .inl 7, .inl 7, .inl 7, .inl 7, .inl 7, .inl 7, .inl 7, .inl 7, .inl 7]
def xrfL2 : List (List Nat) := [[], [], [], [], [], [], [], [], [], [], [], [], [], [], [], [], [], [], [], [], [], [], [], [], [], [], [], [], [], [], [], [], [], [], [], [], [], [], [], [], [], [], [], [], [], [], [], [], [], [], []]
def xtyL3 : List (Nat ⊕ (Nat × Nat)) := [.inl 7, .inl 7, .inl 4, .inr (1, 10), .inr (1, 10), .inr (1, 20), .inl 4, .inr (1, 10), .inr (1, 10), .inr (1, 20), .inl 4, .inr (1, 10), .inr (1, 10), .inr (1, 20), .inl 4, .inr (1, 10), .inr (1, 10), .inr (1, 20), .inl 4, .inr (1, 10), .inr (1, 10), .inr (1, 20), .inl 4, .inr (1, 10), .inr (1, 10), .inr (1, 20), .inl 4, .inr (1, 10), .inr (1, 10), .inr (1, 20), .inl 4, .inr (1, 10), .inr (1, 10), .inr (1, 20), .inl 4, .inr (1, 10), .inr (1, 10), .inr (1, 20), .inl 4, .inr (1, 10), .inr (1, 10), .inr (1, 20), .inl 4, .inr (1, 10), .inr (1, 10), .inr (1, 20), .inl 1, .inr (3, 11), .inr (4, 5), .inr (5, 41), .inr (6, 21)]
def xrfL3 : List (List Nat) := [[], [], [0, 0, 0, 0, 0, 0, 0, 0, 0, 0, 156, 157, 158], [], [], [], [0, 0, 0, 0, 0, 0, 0, 0, 0, 0, 160, 161, 162], [], [], [], [0, 0, 0, 0, 0, 0, 0, 0, 0, 0, 164, 165, 166], [], [], [], [0, 0, 0, 0, 0, 0, 0, 0, 0, 0, 168, 169, 170], [], [], [], [0, 0, 0, 0, 0, 0, 0, 0, 0, 0, 172, 173, 174], [], [], [], [0, 0, 0, 0, 0, 0, 0, 0, 0, 0, 176, 177, 178], [], [], [], [0, 0, 0, 0, 0, 0, 0, 0, 0, 0, 180, 181, 182], [], [], [], [0, 0, 0, 0, 0, 0, 0, 0, 0, 0, 184, 185, 186], [], [], [], [0, 0, 0, 0, 0, 0, 0, 0, 0, 0, 188, 189, 190], [], [], [], [0, 0, 0, 0, 0, 0, 0, 0, 0, 0, 192, 193, 194], [], [], [], [0, 0, 0, 0, 0, 0, 0, 0, 0, 0, 196, 197, 198], [], [], [], [1, 200, 201, 202, 203, 204, 205, 206, 207], [208, 212, 216, 220, 224, 228, 232, 236, 240, 244, 248], [252, 253, 254, 255, 256], [257, 258, 259, 260, 261, 262, 263, 264, 265, 266, 267, 268, 269, 270, 271, 272, 273, 274, 275, 276, 277, 278, 279, 280, 281, 282, 283, 284, 285, 286, 287, 288, 289, 290, 291, 292, 293, 294, 295, 296, 297], [298, 299, 300, 301, 302, 303, 304, 305, 306, 307, 308, 309, 310, 311, 312, 313, 314, 315, 316, 317, 318]]
def xtyL4 : List (Nat ⊕ (Nat × Nat)) := [.inr (7, 11), .inr (8, 21), .inr (9, 11), .inr (1, 9), .inl 0, .inr (1, 4), .inr (1, 4), .inr (1, 44), .inl 0, .inr (1, 4), .inr (1, 4), .inr (1, 44), .inl 0, .inr (1, 4), .inr (1, 4), .inr (1, 44), .inl 0, .inr (1, 4), .inr (1, 4), .inr (1, 44), .inl 0, .inr (1, 4), .inr (1, 4), .inr (1, 44), .inl 0, .inr (1, 4), .inr (1, 4), .inr (1, 44), .inl 0, .inr (1, 4), .inr (1, 4), .inr (1, 44), .inl 0, .inr (1, 4), .inr (1, 4), .inr (1, 44), .inl 0, .inr (1, 4), .inr (1, 4), .inr (1, 44), .inl 0, .inr (1, 4), .inr (1, 4), .inr (1, 44), .inl 0, .inr (1, 4), .inr (1, 4), .inr (1, 44), .inl 9, .inl 9, .inl 9]
def xrfL4 : List (List Nat) := [[319, 320, 321, 322, 323, 324, 325, 326, 327, 328, 329], [330, 331, 332, 333, 334, 335, 336, 337, 338, 339, 340, 341, 342, 343, 344, 345, 346, 347, 348, 349, 350], [351, 355, 359, 363, 367, 371, 375, 379, 383, 387, 391], [], [0, 0, 0, 0, 0, 0, 0, 0, 0, 209, 210, 211], [], [], [], [0, 0, 0, 0, 0, 0, 0, 0, 0, 213, 214, 215], [], [], [], [0, 0, 0, 0, 0, 0, 0, 0, 0, 217, 218, 219], [], [], [], [0, 0, 0, 0, 0, 0, 0, 0, 0, 221, 222, 223], [], [], [], [0, 0, 0, 0, 0, 0, 0, 0, 0, 225, 226, 227], [], [], [], [0, 0, 0, 0, 0, 0, 0, 0, 0, 229, 230, 231], [], [], [], [0, 0, 0, 0, 0, 0, 0, 0, 0, 233, 234, 235], [], [], [], [0, 0, 0, 0, 0, 0, 0, 0, 0, 237, 238, 239], [], [], [], [0, 0, 0, 0, 0, 0, 0, 0, 0, 241, 242, 243], [], [], [], [0, 0, 0, 0, 0, 0, 0, 0, 0, 245, 246, 247], [], [], [], [0, 0, 0, 0, 0, 0, 0, 0, 0, 249, 250, 251], [], [], [], [], [], []]
def xtyL5 : List (Nat ⊕ (Nat × Nat)) := [.inl 9, .inl 9, .inl 5, .inl 5, .inl 5, .inl 5, .inl 5, .inl 5, .inl 5, .inl 5, .inl 5, .inl 5, .inl 5, .inl 5, .inl 5, .inl 5, .inl 5, .inl 5, .inl 5, .inl 5, .inl 5, .inl 5, .inl 5, .inl 5, .inl 5, .inl 5, .inl 5, .inl 5, .inl 5, .inl 5, .inl 5, .inl 5, .inl 5, .inl 5, .inl 5, .inl 5, .inl 5, .inl 5, .inl 5, .inl 5, .inl 5, .inl 5, .inl 5, .inl 10, .inl 10, .inl 10, .inl 10, .inl 10, .inl 10, .inl 10, .inl 10]
def xrfL5 : List (List Nat) := [[], [], [], [], [], [], [], [], [], [], [], [], [], [], [], [], [], [], [], [], [], [], [], [], [], [], [], [], [], [], [], [], [], [], [], [], [], [], [], [], [], [], [], [], [], [], [], [], [], [], []]
def xtyL6 : List (Nat ⊕ (Nat × Nat)) := [.inl 10, .inl 10, .inl 10, .inl 10, .inl 10, .inl 10, .inl 10, .inl 10, .inl 10, .inl 10, .inl 10, .inl 10, .inl 10, .inl 6, .inl 6, .inl 6, .inl 6, .inl 6, .inl 6, .inl 6, .inl 6, .inl 6, .inl 6, .inl 6, .inl 7, .inl 7, .inl 7, .inl 7, .inl 7, .inl 7, .inl 7, .inl 7, .inl 7, .inl 7, .inl 7, .inl 7, .inl 7, .inl 7, .inl 7, .inl 7, .inl 7, .inl 7, .inl 7, .inl 7, .inl 7, .inl 4, .inr (1, 10), .inr (1, 10), .inr (1, 20), .inl 4, .inr (1, 10)]
def xrfL6 : List (List Nat) := [[], [], [], [], [], [], [], [], [], [], [], [], [], [], [], [], [], [], [], [], [], [], [], [], [], [], [], [], [], [], [], [], [], [], [], [], [], [], [], [], [], [], [], [], [], [0, 0, 0, 0, 0, 0, 0, 0, 0, 0, 352, 353, 354], [], [], [], [0, 0, 0, 0, 0, 0, 0, 0, 0, 0, 356, 357, 358], []]
def xtyL7 : List (Nat ⊕ (Nat × Nat)) := [.inr (1, 10), .inr (1, 20), .inl 4, .inr (1, 10), .inr (1, 10), .inr (1, 20), .inl 4, .inr (1, 10), .inr (1, 10), .inr (1, 20), .inl 4, .inr (1, 10), .inr (1, 10), .inr (1, 20), .inl 4, .inr (1, 10), .inr (1, 10), .inr (1, 20), .inl 4, .inr (1, 10), .inr (1, 10), .inr (1, 20), .inl 4, .inr (1, 10), .inr (1, 10), .inr (1, 20), .inl 4, .inr (1, 10), .inr (1, 10), .inr (1, 20), .inl 4, .inr (1, 10), .inr (1, 10), .inr (1, 20), .inl 4, .inr (1, 10), .inr (1, 10), .inr (1, 20), .inl 2, .inr (0, 20), .inr (1, 11), .inr (1, 10), .inl 3, .inl 12, .inr (1, 1550), .inr (1, 1550), .inr (0, 10), .inr (0, 10), .inr (0, 20), .inr (1, 1), .inr (2, 1)]
def xrfL7 : List (List Nat) := [[], [], [0, 0, 0, 0, 0, 0, 0, 0, 0, 0, 360, 361, 362], [], [], [], [0, 0, 0, 0, 0, 0, 0, 0, 0, 0, 364, 365, 366], [], [], [], [0, 0, 0, 0, 0, 0, 0, 0, 0, 0, 368, 369, 370], [], [], [], [0, 0, 0, 0, 0, 0, 0, 0, 0, 0, 372, 373, 374], [], [], [], [0, 0, 0, 0, 0, 0, 0, 0, 0, 0, 376, 377, 378], [], [], [], [0, 0, 0, 0, 0, 0, 0, 0, 0, 0, 380, 381, 382], [], [], [], [0, 0, 0, 0, 0, 0, 0, 0, 0, 0, 384, 385, 386], [], [], [], [0, 0, 0, 0, 0, 0, 0, 0, 0, 0, 388, 389, 390], [], [], [], [0, 0, 0, 0, 0, 0, 0, 0, 0, 0, 392, 393, 394], [], [], [], [3, 396, 397, 398], [], [], [], [3], [401, 402, 0, 403, 404, 0, 405], [], [], [], [], [], [], []]
def xLty (c : Nat) : Nat ⊕ (Nat × Nat) := if c < 51 then xtyL0.getD (c - 0) (.inl 99) else (if c < 102 then xtyL1.getD (c - 51) (.inl 99) else (if c < 153 then xtyL2.getD (c - 102) (.inl 99) else (if c < 204 then xtyL3.getD (c - 153) (.inl 99) else (if c < 255 then xtyL4.getD (c - 204) (.inl 99) else (if c < 306 then xtyL5.getD (c - 255) (.inl 99) else (if c < 357 then xtyL6.getD (c - 306) (.inl 99) else (xtyL7.getD (c - 357) (.inl 99))))))))
def xLrr (c : Nat) : List Nat := if c < 51 then xrfL0.getD (c - 0) ([]) else (if c < 102 then xrfL1.getD (c - 51) ([]) else (if c < 153 then xrfL2.getD (c - 102) ([]) else (if c < 204 then xrfL3.getD (c - 153) ([]) else (if c < 255 then xrfL4.getD (c - 204) ([]) else (if c < 306 then xrfL5.getD (c - 255) ([]) else (if c < 357 then xrfL6.getD (c - 306) ([]) else (xrfL7.getD (c - 357) ([]))))))))
def xr (c k : Nat) : Nat := (xLrr c).getD k 0
def xln (c : Nat) : Nat := match xLty c with
  | .inr (_, n) => n
  | _ => 0
abbrev R32 (x : Int) : Prop := -2147483648 ≤ x ∧ x < 2147483648
abbrev R64 (x : Int) : Prop := -9223372036854775808 ≤ x ∧ x < 9223372036854775808
abbrev B01 (x : Int) : Prop := x = 0 ∨ x = 1
abbrev RD (x : Int) : Prop := 0 ≤ x ∧ x < 18446744073709551616
theorem B01.r {x : Int} (h : B01 x) : R32 x := by rcases h with rfl | rfl <;> decide
theorem R32.j {x : Int} (h : R32 x) : R64 x := ⟨by omega, by omega⟩
theorem w32_r (x : Int) : R32 (w32 x) := ⟨Int32.le_toInt _, Int32.toInt_lt _⟩
theorem w64_r (x : Int) : R64 (w64 x) := ⟨Int64.le_toInt _, Int64.toInt_lt _⟩
theorem w32_id {x : Int} (h : R32 x) : w32 x = x := w32_of h.1 h.2
theorem w64_id {x : Int} (h : R64 x) : w64 x = x := w64_of h.1 h.2
abbrev xO : Type := Option ((Int ⊕ Nat) × xM)
def xN : Nat := 1000000
def xix (z : Int) (n : Nat) (F : xO) : xO := if 0 ≤ z ∧ z < (n : Int) then F else none
def xnz (y : Int) (F : xO) : xO := if 0 < y then F else none
def xput (c k : Nat) (v : Int) (M : xM) (K : xM → xO) : xO := K (xup M c k v)
def xlet (v : Int) (K : Int → xO) : xO := K v
def xbc (r : xO) (k : Int → xM → xO) (kx : Nat → xM → xO) : xO := match r with
  | some (.inl z, M) => k z M
  | some (.inr e, M) => kx e M
  | none => none
def xb (r : xO) (k : Int → xM → xO) : xO := xbc r k (fun e M => some (.inr e, M))
def xcs (e : Nat) (a b c : xO) : xO := match e with
  | 0 => a
  | 1 => b
  | _ => c
def xcopy (c0 n0 c1 n1 : Nat) (z : Int) (M : xM) (K : xM → xO) : xO := if 0 ≤ z ∧ z ≤ (n0 : Int) ∧ z ≤ (n1 : Int) ∧ z < 2147483648 then K (xcpy M c0 c1 z.toNat) else none
def xret (z : Int) (M : xM) : xO := some (.inl z, M)
def xthr (e : Nat) (M : xM) : xO := some (.inr e, M)
def xand (x y : Int) : Int := (Int32.ofInt x &&& Int32.ofInt y).toInt
def xor32 (x y : Int) : Int := (Int32.ofInt x ||| Int32.ofInt y).toInt
def xxor (x y : Int) : Int := (Int32.ofInt x ^^^ Int32.ofInt y).toInt
def xshl (x y : Int) : Int := (Int32.ofInt x <<< (Int32.ofInt y &&& 31)).toInt
def xshr (x y : Int) : Int := (Int32.ofInt x >>> (Int32.ofInt y &&& 31)).toInt
theorem xand_r (x y : Int) : R32 (xand x y) := ⟨Int32.le_toInt _, Int32.toInt_lt _⟩
theorem xor32_r (x y : Int) : R32 (xor32 x y) := ⟨Int32.le_toInt _, Int32.toInt_lt _⟩
theorem xxor_r (x y : Int) : R32 (xxor x y) := ⟨Int32.le_toInt _, Int32.toInt_lt _⟩
theorem xshl_r (x y : Int) : R32 (xshl x y) := ⟨Int32.le_toInt _, Int32.toInt_lt _⟩
theorem xshr_r (x y : Int) : R32 (xshr x y) := ⟨Int32.le_toInt _, Int32.toInt_lt _⟩
def xnn (r : UInt64) (F : xO) : xO := if r &&& 0x7fffffffffffffff ≤ 0x7ff0000000000000 then F else none
def xdcl (x y : UInt64) : Int := (Op.cmpValue (FP.dcmp x y) .l).toInt
theorem xdcl_r (x y : UInt64) : R32 (xdcl x y) := ⟨Int32.le_toInt _, Int32.toInt_lt _⟩
def xl2d (z : Int) : UInt64 := FP.l2d (Int64.ofInt z)
theorem xsx_r (x : Int32) : R32 x.toInt := ⟨Int32.le_toInt _, Int32.toInt_lt _⟩
theorem xsl_r {sl : Nat} (h : sl ≤ 2147483647) : R32 (sl : Int) := by omega
def xsw (x lo hi : Int) (D : xO) (Fs : List xO) : xO := if x < lo ∨ hi < x then D else Fs.getD (x - lo).toNat none
