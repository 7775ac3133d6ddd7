/-! the pure side: what the functions of all methods say, as arithmetic -/
theorem xb_l (z : Int) (M : xM) (k : Int → xM → xO) : xb (some (.inl z, M)) k = k z M := rfl
theorem xb_r (e : Nat) (M : xM) (k : Int → xM → xO) : xb (some (.inr e, M)) k = some (.inr e, M) := rfl
theorem xbc_l (z : Int) (M : xM) (k : Int → xM → xO) (kx : Nat → xM → xO) : xbc (some (.inl z, M)) k kx = k z M := rfl
theorem xbc_r (e : Nat) (M : xM) (k : Int → xM → xO) (kx : Nat → xM → xO) : xbc (some (.inr e, M)) k kx = kx e M := rfl
theorem xcs_0 (a b c : xO) : xcs 0 a b c = a := rfl
theorem xcs_1 (a b c : xO) : xcs 1 a b c = b := rfl
theorem xcs_2 (a b c : xO) : xcs 2 a b c = c := rfl
theorem xix_t {z : Int} {n : Nat} {F : xO} (h1 : 0 ≤ z) (h2 : z < (n : Int)) : xix z n F = F := if_pos ⟨h1, h2⟩
theorem xnz_t {y : Int} {F : xO} (h : 0 < y) : xnz y F = F := if_pos h
theorem w32_i {x : Int} (h1 : -2147483648 ≤ x) (h2 : x < 2147483648) : w32 x = x := w32_of h1 h2
theorem w64_i {x : Int} (h1 : -9223372036854775808 ≤ x) (h2 : x < 9223372036854775808) : w64 x = x := w64_of h1 h2
theorem w64_b (x : Int) : w64 x = Int.bmod x 18446744073709551616 := Int64.toInt_ofInt
theorem w32_b (x : Int) : w32 x = Int.bmod x 4294967296 := Int32.toInt_ofInt
theorem tn_add {x y : Int} (hx : 0 ≤ x) (hy : 0 ≤ y) : (x + y).toNat = x.toNat + y.toNat := Int.toNat_add hx hy
theorem tn_3 {x : Int} (hx : 0 ≤ x) : (3 * x).toNat = 3 * x.toNat := by omega
theorem tn_4 {x : Int} (hx : 0 ≤ x) : (4 * x).toNat = 4 * x.toNat := by omega
theorem tn_4r {x : Int} (hx : 0 ≤ x) : (x * 4).toNat = 4 * x.toNat := by omega
theorem tn_3r {x : Int} (hx : 0 ≤ x) : (x * 3).toNat = 3 * x.toNat := by omega
theorem tn_10 {x : Int} (hx : 0 ≤ x) : (10 * x).toNat = 10 * x.toNat := by omega
theorem tn_20 {x : Int} (hx : 0 ≤ x) : (20 * x).toNat = 20 * x.toNat := by omega
theorem ex_nat {x : Int} (h : 0 ≤ x) : ∃ n : Nat, x = (n : Int) := ⟨x.toNat, by omega⟩
def ups (w : Nat → Int) (j : Nat) (v : Int) : Nat → Int := fun i => if i = j then v else w i
theorem ups_same {w : Nat → Int} {j : Nat} {v : Int} : ups w j v j = v := if_pos rfl
theorem ups_ne {w : Nat → Int} {j : Nat} {v : Int} {i : Nat} (h : i ≠ j) : ups w j v i = w i := if_neg h
theorem ups_self {w : Nat → Int} {j : Nat} : ups w j (w j) = w := by
  funext i; unfold ups; split
  · next h => rw [h]
  · rfl
theorem ups_ups {w : Nat → Int} {j : Nat} {v u : Int} : ups (ups w j v) j u = ups w j u := by
  funext i; unfold ups; split <;> rfl
theorem ups_comm {w : Nat → Int} {i j : Nat} {v u : Int} (h : i ≠ j) : ups (ups w i v) j u = ups (ups w j u) i v := by
  funext k; unfold ups
  by_cases h1 : k = j
  · subst h1; rw [if_pos rfl, if_neg (fun q => h q.symm), if_pos rfl]
  · rw [if_neg h1, if_neg h1]
theorem xup_c {M : xM} {c k a b : Nat} {v : Int} (h : a ≠ c) : xup M c k v a b = M a b := xup_ne (fun q => h q.1)
theorem xup_k {M : xM} {c k b : Nat} {v : Int} (h : b ≠ k) : xup M c k v c b = M c b := xup_ne (fun q => h q.2)
theorem xup_self {M : xM} {c k : Nat} : xup M c k (M c k) = M := by
  funext a b; unfold xup; split
  · next h => rw [h.1, h.2]
  · rfl

theorem xr_accs : ∀ a : Nat, a < 11 → xr 4 a = 12 + 4 * a := by decide +kernel
theorem xr_secs : ∀ a : Nat, a < 5 → xr 5 a = 56 + a := by decide +kernel
theorem xr_inss : ∀ a : Nat, a < 41 → xr 6 a = 61 + a := by decide +kernel
theorem xr_trds : ∀ a : Nat, a < 21 → xr 7 a = 102 + a := by decide +kernel
theorem xr_lnks : ∀ a : Nat, a < 11 → xr 8 a = 123 + a := by decide +kernel
theorem xr_lons : ∀ a : Nat, a < 21 → xr 9 a = 134 + a := by decide +kernel
theorem xr_evts : ∀ a : Nat, a < 11 → xr 10 a = 155 + 4 * a := by decide +kernel
theorem xr_held : ∀ a : Nat, a < 11 → xr (12 + 4 * a) 9 = 13 + 4 * a := by decide +kernel
theorem xr_blk : ∀ a : Nat, a < 11 → xr (12 + 4 * a) 10 = 14 + 4 * a := by decide +kernel
theorem xr_mov : ∀ a : Nat, a < 11 → xr (12 + 4 * a) 11 = 15 + 4 * a := by decide +kernel
theorem xr_ent : ∀ a : Nat, a < 11 → xr (155 + 4 * a) 10 = 156 + 4 * a := by decide +kernel
theorem xr_ele : ∀ a : Nat, a < 11 → xr (155 + 4 * a) 11 = 157 + 4 * a := by decide +kernel
theorem xr_clm : ∀ a : Nat, a < 11 → xr (155 + 4 * a) 12 = 158 + 4 * a := by decide +kernel
theorem xr_0_0 : xr 0 0 = 1 := by decide +kernel
theorem xr_0_1 : xr 0 1 = 3 := by decide +kernel
theorem xr_0_2 : xr 0 2 = 199 := by decide +kernel
theorem xr_0_3 : xr 0 3 = 395 := by decide +kernel
theorem xr_0_4 : xr 0 4 = 399 := by decide +kernel
theorem xr_1_0 : xr 1 0 = 2 := by decide +kernel
theorem xr_3_0 : xr 3 0 = 1 := by decide +kernel
theorem xr_3_1 : xr 3 1 = 4 := by decide +kernel
theorem xr_3_2 : xr 3 2 = 5 := by decide +kernel
theorem xr_3_3 : xr 3 3 = 6 := by decide +kernel
theorem xr_3_4 : xr 3 4 = 7 := by decide +kernel
theorem xr_3_5 : xr 3 5 = 8 := by decide +kernel
theorem xr_3_6 : xr 3 6 = 9 := by decide +kernel
theorem xr_3_7 : xr 3 7 = 10 := by decide +kernel
theorem xr_3_8 : xr 3 8 = 11 := by decide +kernel
theorem xr_395_0 : xr 395 0 = 3 := by decide +kernel
theorem xr_395_1 : xr 395 1 = 396 := by decide +kernel
theorem xr_395_2 : xr 395 2 = 397 := by decide +kernel
theorem xr_395_3 : xr 395 3 = 398 := by decide +kernel
theorem xr_399_0 : xr 399 0 = 3 := by decide +kernel
theorem xr_400_0 : yr 400 0 = 401 := by decide +kernel
theorem xr_400_1 : yr 400 1 = 402 := by decide +kernel
theorem xr_400_3 : yr 400 3 = 403 := by decide +kernel
theorem xr_400_4 : yr 400 4 = 404 := by decide +kernel
theorem xr_400_6 : yr 400 6 = 405 := by decide +kernel
theorem xr_199_0 : xr 199 0 = 1 := by decide +kernel
theorem xr_199_1 : xr 199 1 = 200 := by decide +kernel
theorem xr_199_2 : xr 199 2 = 201 := by decide +kernel
theorem xr_199_3 : xr 199 3 = 202 := by decide +kernel
theorem xr_199_4 : xr 199 4 = 203 := by decide +kernel
theorem xr_199_5 : xr 199 5 = 204 := by decide +kernel
theorem xr_199_6 : xr 199 6 = 205 := by decide +kernel
theorem xr_199_7 : xr 199 7 = 206 := by decide +kernel
theorem xr_199_8 : xr 199 8 = 207 := by decide +kernel
theorem xrk_accs : ∀ a, a < 11 → xr 200 a = 208 + 4 * a := by decide +kernel
theorem xrk_secs : ∀ a, a < 5 → xr 201 a = 252 + a := by decide +kernel
theorem xrk_inss : ∀ a, a < 41 → xr 202 a = 257 + a := by decide +kernel
theorem xrk_trds : ∀ a, a < 21 → xr 203 a = 298 + a := by decide +kernel
theorem xrk_lnks : ∀ a, a < 11 → xr 204 a = 319 + a := by decide +kernel
theorem xrk_lons : ∀ a, a < 21 → xr 205 a = 330 + a := by decide +kernel
theorem xrk_evts : ∀ a, a < 11 → xr 206 a = 351 + 4 * a := by decide +kernel
theorem xrk_held : ∀ a : Nat, a < 11 → xr (208 + 4 * a) 9 = 209 + 4 * a := by decide +kernel
theorem xrk_blk : ∀ a : Nat, a < 11 → xr (208 + 4 * a) 10 = 210 + 4 * a := by decide +kernel
theorem xrk_mov : ∀ a : Nat, a < 11 → xr (208 + 4 * a) 11 = 211 + 4 * a := by decide +kernel
theorem xrk_ent : ∀ a : Nat, a < 11 → xr (351 + 4 * a) 10 = 352 + 4 * a := by decide +kernel
theorem xrk_ele : ∀ a : Nat, a < 11 → xr (351 + 4 * a) 11 = 353 + 4 * a := by decide +kernel
theorem xrk_clm : ∀ a : Nat, a < 11 → xr (351 + 4 * a) 12 = 354 + 4 * a := by decide +kernel
theorem xln_held : ∀ a, a < 11 → xln (13 + 4 * a) = 4 := by decide +kernel
theorem xlnk_held : ∀ a, a < 11 → xln (209 + 4 * a) = 4 := by decide +kernel
theorem xln_blk : ∀ a, a < 11 → xln (14 + 4 * a) = 4 := by decide +kernel
theorem xlnk_blk : ∀ a, a < 11 → xln (210 + 4 * a) = 4 := by decide +kernel
theorem xln_mov : ∀ a, a < 11 → xln (15 + 4 * a) = 44 := by decide +kernel
theorem xlnk_mov : ∀ a, a < 11 → xln (211 + 4 * a) = 44 := by decide +kernel
theorem xln_ent : ∀ a, a < 11 → xln (156 + 4 * a) = 10 := by decide +kernel
theorem xlnk_ent : ∀ a, a < 11 → xln (352 + 4 * a) = 10 := by decide +kernel
theorem xln_ele : ∀ a, a < 11 → xln (157 + 4 * a) = 10 := by decide +kernel
theorem xlnk_ele : ∀ a, a < 11 → xln (353 + 4 * a) = 10 := by decide +kernel
theorem xln_clm : ∀ a, a < 11 → xln (158 + 4 * a) = 20 := by decide +kernel
theorem xlnk_clm : ∀ a, a < 11 → xln (354 + 4 * a) = 20 := by decide +kernel
theorem xln_11 : xln 11 = 9 := by decide +kernel
theorem xln_207 : xln 207 = 9 := by decide +kernel
theorem xln_398 : xln 398 = 10 := by decide +kernel
/-- where in the class the number stands that the model keeps at j -/
def cj (j : Nat) : Nat × Nat := if j < 10 then (12 + 4 * (j - 0), 1) else if j < 20 then (12 + 4 * (j - 10), 2) else if j < 30 then (12 + 4 * (j - 20), 0) else if j < 40 then (12 + 4 * (j - 30), 5) else if j < 50 then (12 + 4 * (j - 40), 6) else if j < 60 then (12 + 4 * (j - 50), 7) else if j < 70 then (12 + 4 * (j - 60), 3) else if j < 80 then (12 + 4 * (j - 70), 4) else if j < 90 then (12 + 4 * (j - 80), 8) else if j < 100 then (9000, j) else if j < 140 then (13 + 4 * ((j - 100) / 4), (j - 100) % 4) else if j < 180 then (14 + 4 * ((j - 140) / 4), (j - 140) % 4) else if j < 184 then (56 + (j - 180), 0) else if j < 188 then (56 + (j - 184), 1) else if j < 192 then (56 + (j - 188), 2) else if j < 196 then (56 + (j - 192), 3) else if j < 205 then (11, j - 196) else if j < 210 then (9000, j) else if j < 250 then (61 + (j - 210), 0) else if j < 290 then (61 + (j - 250), 1) else if j < 330 then (61 + (j - 290), 2) else if j < 370 then (61 + (j - 330), 3) else if j < 410 then (61 + (j - 370), 4) else if j < 450 then (61 + (j - 410), 5) else if j < 490 then (61 + (j - 450), 6) else if j < 530 then (61 + (j - 490), 7) else if j < 570 then (61 + (j - 530), 8) else if j < 610 then (61 + (j - 570), 9) else if j < 650 then (61 + (j - 610), 11) else if j < 690 then (61 + (j - 650), 10) else if j < 730 then (61 + (j - 690), 12) else if j < 750 then (102 + (j - 730), 1) else if j < 770 then (102 + (j - 750), 2) else if j < 790 then (102 + (j - 770), 6) else if j < 810 then (102 + (j - 790), 7) else if j < 830 then (102 + (j - 810), 10) else if j < 850 then (102 + (j - 830), 8) else if j < 870 then (102 + (j - 850), 11) else if j < 890 then (102 + (j - 870), 12) else if j < 900 then (123 + (j - 890), 0) else if j < 910 then (123 + (j - 900), 1) else if j < 920 then (123 + (j - 910), 2) else if j < 930 then (9000, j) else if j < 950 then (134 + (j - 930), 1) else if j < 970 then (134 + (j - 950), 0) else if j < 990 then (134 + (j - 970), 2) else if j < 1010 then (9000, j) else if j < 1030 then (134 + (j - 1010), 4) else if j < 1050 then (134 + (j - 1030), 5) else if j < 1060 then (155 + 4 * (j - 1050), 0) else if j < 1070 then (155 + 4 * (j - 1060), 1) else if j < 1080 then (155 + 4 * (j - 1070), 2) else if j < 1090 then (155 + 4 * (j - 1080), 3) else if j < 1100 then (155 + 4 * (j - 1090), 4) else if j < 1110 then (155 + 4 * (j - 1100), 5) else if j < 1120 then (155 + 4 * (j - 1110), 6) else if j < 1130 then (155 + 4 * (j - 1120), 7) else if j < 1140 then (155 + 4 * (j - 1130), 8) else if j < 1240 then (156 + 4 * ((j - 1140) / 10), (j - 1140) % 10) else if j < 1340 then (157 + 4 * ((j - 1240) / 10), (j - 1240) % 10) else if j < 1540 then (158 + 4 * ((j - 1340) / 20), (j - 1340) % 20) else if j < 1548 then (3, 9 + (j - 1540)) else (9000, j)
def jcA (a k : Nat) : Nat := (if k = 1 then a else if k = 2 then 10 + a else if k = 0 then 20 + a else if k = 5 then 30 + a else if k = 6 then 40 + a else if k = 7 then 50 + a else if k = 3 then 60 + a else if k = 4 then 70 + a else if k = 8 then 80 + a else 9999)
def jcI (i k : Nat) : Nat := (if k = 0 then 210 + i else if k = 1 then 250 + i else if k = 2 then 290 + i else if k = 3 then 330 + i else if k = 4 then 370 + i else if k = 5 then 410 + i else if k = 6 then 450 + i else if k = 7 then 490 + i else if k = 8 then 530 + i else if k = 9 then 570 + i else if k = 11 then 610 + i else if k = 10 then 650 + i else if k = 12 then 690 + i else 9999)
def jcT (i k : Nat) : Nat := (if k = 1 then 730 + i else if k = 2 then 750 + i else if k = 6 then 770 + i else if k = 7 then 790 + i else if k = 10 then 810 + i else if k = 8 then 830 + i else if k = 11 then 850 + i else if k = 12 then 870 + i else 9999)
def jcK (i k : Nat) : Nat := (if k = 0 then 890 + i else if k = 1 then 900 + i else if k = 2 then 910 + i else 9999)
def jcL (i k : Nat) : Nat := (if k = 1 then 930 + i else if k = 0 then 950 + i else if k = 2 then 970 + i else if k = 4 then 1010 + i else if k = 5 then 1030 + i else 9999)
def jcS (i k : Nat) : Nat := (if k = 0 then 180 + i else if k = 1 then 184 + i else if k = 2 then 188 + i else if k = 3 then 192 + i else 9999)
def jcE (a k : Nat) : Nat := (if k = 0 then 1050 + a else if k = 1 then 1060 + a else if k = 2 then 1070 + a else if k = 3 then 1080 + a else if k = 4 then 1090 + a else if k = 5 then 1100 + a else if k = 6 then 1110 + a else if k = 7 then 1120 + a else if k = 8 then 1130 + a else 9999)
def jc (c k : Nat) : Nat :=
  if c < 3 then 9999
  else if c = 3 then (if 9 ≤ k then (if k ≤ 16 then 1540 + (k - 9) else 9999) else 9999)
  else if c < 11 then 9999
  else if c = 11 then (if k < 9 then 196 + k else 9999)
  else if c < 56 then (if (c - 12) / 4 < 10 then (if (c - 12) % 4 = 0 then jcA ((c - 12) / 4) k else if (c - 12) % 4 = 1 then (if k < 4 then 100 + 4 * ((c - 12) / 4) + k else 9999) else if (c - 12) % 4 = 2 then (if k < 4 then 140 + 4 * ((c - 12) / 4) + k else 9999) else 9999) else 9999)
  else if c < 60 then jcS (c - 56) k
  else if c < 61 then 9999
  else if c < 101 then jcI (c - 61) k
  else if c < 102 then 9999
  else if c < 122 then jcT (c - 102) k
  else if c < 123 then 9999
  else if c < 133 then jcK (c - 123) k
  else if c < 134 then 9999
  else if c < 154 then jcL (c - 134) k
  else if c < 155 then 9999
  else if c < 195 then (if (c - 155) % 4 = 0 then jcE ((c - 155) / 4) k else if (c - 155) % 4 = 1 then (if k < 10 then 1140 + 10 * ((c - 155) / 4) + k else 9999) else if (c - 155) % 4 = 2 then (if k < 10 then 1240 + 10 * ((c - 155) / 4) + k else 9999) else (if k < 20 then 1340 + 20 * ((c - 155) / 4) + k else 9999))
  else 9999
def mpd (j : Nat) : Bool := decide (j < 1550) && decide (jc (cj j).1 (cj j).2 = j)
def off (j : Nat) : Int := if j < 870 then 0 else if j < 890 then 1 else 0
theorem mpd_lt {j : Nat} (h : mpd j = true) : j < 1550 := by simp only [mpd, Bool.and_eq_true, decide_eq_true_eq] at h; exact h.1
theorem mpd_jc {j : Nat} (h : mpd j = true) : jc (cj j).1 (cj j).2 = j := by simp only [mpd, Bool.and_eq_true, decide_eq_true_eq] at h; exact h.2
theorem mpd_inj {i j : Nat} (hi : mpd i = true) (hj : mpd j = true) (h : cj i = cj j) : i = j := by rw [← mpd_jc hi, ← mpd_jc hj, h]
/-- a row that counts -/
def live (w : Nat → Int) (j : Nat) : Prop := (j < 10 → (j : Int) < w 1540) ∧ (650 ≤ j → j < 690 → (j : Int) - 650 < w 1542) ∧ (890 ≤ j → j < 900 → (j : Int) - 890 < w 1544) ∧ (900 ≤ j → j < 910 → (j : Int) - 900 < w 1544) ∧ (910 ≤ j → j < 920 → (j : Int) - 910 < w 1544) ∧ (930 ≤ j → j < 950 → (j : Int) - 930 < w 1545) ∧ (950 ≤ j → j < 970 → (j : Int) - 950 < w 1545) ∧ (970 ≤ j → j < 990 → (j : Int) - 970 < w 1545) ∧ (1010 ≤ j → j < 1030 → (j : Int) - 1010 < w 1545) ∧ (1030 ≤ j → j < 1050 → (j : Int) - 1030 < w 1545)
theorem live_eq {w w' : Nat → Int} (h0 : w' 1540 = w 1540) (h2 : w' 1542 = w 1542) (h4 : w' 1544 = w 1544) (h5 : w' 1545 = w 1545) (j : Nat) : live w' j = live w j := by unfold live; rw [h0, h2, h4, h5]
/-- class and model agree on what stands in both -/
def R1 (M : xM) (w : Nat → Int) : Prop := ∀ j, mpd j = true → live w j → M (cj j).1 (cj j).2 = w j + off j
theorem R1.up {M : xM} {w : Nat → Int} (h : R1 M w) {j c k : Nat} {v u : Int} (hm : mpd j = true) (hc : cj j = (c, k)) (hv : v = u + off j) (h0 : j ≠ 1540) (h2 : j ≠ 1542) (h4 : j ≠ 1544) (h5 : j ≠ 1545) : R1 (xup M c k v) (ups w j u) := by
  intro i hi hl
  rw [live_eq (w := w) (ups_ne (Ne.symm h0)) (ups_ne (Ne.symm h2)) (ups_ne (Ne.symm h4)) (ups_ne (Ne.symm h5))] at hl
  by_cases q : i = j
  · subst q; rw [hc, xup_same, ups_same, hv]
  · have hne : ¬ ((cj i).1 = c ∧ (cj i).2 = k) := fun z => q (mpd_inj hi hm (by rw [hc, ← z.1, ← z.2]))
    rw [xup_ne hne, ups_ne q]; exact h i hi hl
theorem R1.cls {M : xM} {w : Nat → Int} (h : R1 M w) {c k : Nat} {v : Int} (hc : 1550 ≤ jc c k) : R1 (xup M c k v) w := by
  intro i hi hl
  have hne : ¬ ((cj i).1 = c ∧ (cj i).2 = k) := fun z => by
    have := mpd_jc hi; rw [z.1, z.2] at this; have := mpd_lt hi; omega
  rw [xup_ne hne]; exact h i hi hl
theorem R1.mdl {M : xM} {w : Nat → Int} (h : R1 M w) {j : Nat} {v : Int} (hm : mpd j = false ∨ ¬ live w j) (h0 : j ≠ 1540) (h2 : j ≠ 1542) (h4 : j ≠ 1544) (h5 : j ≠ 1545) : R1 M (ups w j v) := by
  intro i hi hl
  rw [live_eq (w := w) (ups_ne (Ne.symm h0)) (ups_ne (Ne.symm h2)) (ups_ne (Ne.symm h4)) (ups_ne (Ne.symm h5))] at hl
  have q : i ≠ j := fun z => by subst z; rcases hm with hm | hm; (rw [hm] at hi; cases hi); exact hm hl
  rw [ups_ne q]; exact h i hi hl
theorem R1.fr {M M' : xM} {w : Nat → Int} (h : R1 M w) (hM : ∀ c k, jc c k < 1550 → M' c k = M c k) : R1 M' w := by
  intro i hi hl
  rw [hM _ _ (by rw [mpd_jc hi]; exact mpd_lt hi)]; exact h i hi hl
/-- the instructions of a trade -/
def di (w : Nat → Int) (t : Nat) : Nat := (w (730 + t)).toNat
def ri (w : Nat → Int) (t : Nat) : Nat := (w (750 + t)).toNat
def dl (w : Nat → Int) (t : Nat) : Nat := (w (210 + di w t)).toNat
def rc (w : Nat → Int) (t : Nat) : Nat := (w (210 + ri w t)).toNat
def pp (w : Nat → Int) (t : Nat) : Nat := (w (330 + di w t)).toNat
/-- what a trade of the class keeps of its instructions -/
def RT (M : xM) (w : Nat → Int) : Prop := ∀ t : Nat, t < 20 → (t : Int) < w 1543 → di w t < 40 ∧ ri w t < 40 ∧ M (102 + t) 3 = w (210 + di w t) ∧ M (102 + t) 4 = w (210 + ri w t) ∧ M (102 + t) 5 = w (330 + di w t) ∧ M (102 + t) 9 = w (450 + di w t)
/-- loans: their units, or that they are back -/
def RLo (M : xM) (w : Nat → Int) : Prop := ∀ l : Nat, l < 20 → (l : Int) < w 1545 → (M (134 + l) 6 = 0 ∧ M (134 + l) 3 = w (990 + l) ∧ 0 ≤ w (990 + l)) ∨ (M (134 + l) 6 = 1 ∧ w (990 + l) = -1)
/-- what stands in the class alone -/
def CI (M : xM) (w : Nat → Int) : Prop := (∀ t : Nat, t < 20 → M (102 + t) 0 = (t : Int)) ∧ (∀ l : Nat, l < 20 → w 1545 ≤ (l : Int) → M (134 + l) 5 = 0 ∧ M (134 + l) 6 = 0) ∧ (∀ i : Nat, i < 40 → w 1542 ≤ (i : Int) → M (61 + i) 10 = -1)
def R (M : xM) (w : Nat → Int) : Prop := R1 M w ∧ RT M w ∧ RLo M w ∧ CI M w
def tjT (j : Nat) : Bool := (decide (210 ≤ j) && decide (j < 250)) || (decide (330 ≤ j) && decide (j < 370)) || (decide (450 ≤ j) && decide (j < 490)) || (decide (730 ≤ j) && decide (j < 770)) || decide (j = 1543)
def tcT (c k : Nat) : Bool := decide (102 ≤ c) && decide (c < 122) && (decide (k = 3) || decide (k = 4) || decide (k = 5) || decide (k = 9))
theorem RT.fr {M M' : xM} {w w' : Nat → Int} (h : RT M w) (hM : ∀ c k, tcT c k = true → M' c k = M c k) (hw : ∀ j, tjT j = true → w' j = w j) : RT M' w' := by
  intro t ht hl
  rw [hw 1543 (by decide)] at hl
  obtain ⟨h1, h2, h3, h4, h5, h6⟩ := h t ht hl
  have e1 : di w' t = di w t := by unfold di; rw [hw _ (by simp [tjT]; omega)]
  have e2 : ri w' t = ri w t := by unfold ri; rw [hw _ (by simp [tjT]; omega)]
  rw [e1, e2, hM _ 3 (by simp [tcT]; omega), hM _ 4 (by simp [tcT]; omega), hM _ 5 (by simp [tcT]; omega), hM _ 9 (by simp [tcT]; omega), hw (210 + di w t) (by simp [tjT]; omega), hw (210 + ri w t) (by simp [tjT]; omega), hw (330 + di w t) (by simp [tjT]; omega), hw (450 + di w t) (by simp [tjT]; omega)]
  exact ⟨h1, h2, h3, h4, h5, h6⟩
theorem RLo.fr {M M' : xM} {w w' : Nat → Int} (h : RLo M w) (hM : ∀ l : Nat, l < 20 → M' (134 + l) 3 = M (134 + l) 3 ∧ M' (134 + l) 6 = M (134 + l) 6) (hw : ∀ l : Nat, l < 20 → w' (990 + l) = w (990 + l)) (h5 : w' 1545 = w 1545) : RLo M' w' := by
  intro l hl hc
  rw [h5] at hc
  rw [(hM l hl).1, (hM l hl).2, hw l hl]; exact h l hl hc
theorem CI.fr {M M' : xM} {w w' : Nat → Int} (h : CI M w) (h0 : ∀ t : Nat, t < 20 → M' (102 + t) 0 = M (102 + t) 0) (h1 : ∀ l : Nat, l < 20 → w 1545 ≤ (l : Int) → M' (134 + l) 5 = M (134 + l) 5 ∧ M' (134 + l) 6 = M (134 + l) 6) (h2 : ∀ i : Nat, i < 40 → w 1542 ≤ (i : Int) → M' (61 + i) 10 = M (61 + i) 10) (h5 : w 1545 ≤ w' 1545) (h6 : w 1542 ≤ w' 1542) : CI M' w' := by
  refine ⟨fun t ht => by rw [h0 t ht]; exact h.1 t ht, fun l hl hc => ?_, fun i hi hc => ?_⟩
  · have q : w 1545 ≤ (l : Int) := by omega
    rw [(h1 l hl q).1, (h1 l hl q).2]; exact h.2.1 l hl q
  · have q : w 1542 ≤ (i : Int) := by omega
    rw [h2 i hi q]; exact h.2.2 i hi q
def spj (j : Nat) : Bool := tjT j || (decide (650 ≤ j) && decide (j < 690)) || (decide (1030 ≤ j) && decide (j < 1050)) || decide (j = 1540) || decide (j = 1542) || decide (j = 1544) || decide (j = 1545)
theorem jcT_n (t : Nat) (ht : t < 20) : jc (102 + t) 0 = 9999 ∧ jc (102 + t) 3 = 9999 ∧ jc (102 + t) 4 = 9999 ∧ jc (102 + t) 5 = 9999 ∧ jc (102 + t) 9 = 9999 := (show ∀ t : Nat, t < 20 → jc (102 + t) 0 = 9999 ∧ jc (102 + t) 3 = 9999 ∧ jc (102 + t) 4 = 9999 ∧ jc (102 + t) 5 = 9999 ∧ jc (102 + t) 9 = 9999 by decide +kernel) t ht
theorem jcL_n (t : Nat) (ht : t < 20) : jc (134 + t) 3 = 9999 ∧ jc (134 + t) 6 = 9999 ∧ jc (134 + t) 5 = 1030 + t := (show ∀ t : Nat, t < 20 → jc (134 + t) 3 = 9999 ∧ jc (134 + t) 6 = 9999 ∧ jc (134 + t) 5 = 1030 + t by decide +kernel) t ht
theorem jcI_n (t : Nat) (ht : t < 40) : jc (61 + t) 10 = 650 + t := (show ∀ t : Nat, t < 40 → jc (61 + t) 10 = 650 + t by decide +kernel) t ht
theorem tcT_jc {c k : Nat} (h : tcT c k = true) : jc c k = 9999 := by
  simp only [tcT, Bool.and_eq_true, Bool.or_eq_true, decide_eq_true_eq] at h
  obtain ⟨t, rfl⟩ : ∃ t, c = 102 + t := ⟨c - 102, by omega⟩
  obtain ⟨h1, h2, h3, h4, h5⟩ := jcT_n t (by omega)
  rcases h.2 with ((q | q) | q) | q
  · rw [q]; exact h2
  · rw [q]; exact h3
  · rw [q]; exact h4
  · rw [q]; exact h5
theorem R.up {M : xM} {w : Nat → Int} (h : R M w) {j c k : Nat} {v u : Int} (hm : mpd j = true) (hc : cj j = (c, k)) (hv : v = u + off j) (hs : spj j = false) : R (xup M c k v) (ups w j u) := by
  simp only [spj, tjT, Bool.or_eq_false_iff, Bool.and_eq_false_iff, decide_eq_false_iff_not] at hs
  have hj : jc c k = j := by have := mpd_jc hm; rw [hc] at this; exact this
  have hl := mpd_lt hm
  refine ⟨h.1.up hm hc hv (by omega) (by omega) (by omega) (by omega), h.2.1.fr (fun a b q => xup_ne (fun z => ?_)) (fun i q => ups_ne (fun z => ?_)), h.2.2.1.fr (fun l q => ⟨xup_ne (fun z => ?_), xup_ne (fun z => ?_)⟩) (fun l q => ups_ne (fun z => ?_)) (ups_ne (by omega)), h.2.2.2.fr (fun t q => xup_ne (fun z => ?_)) (fun l q q2 => ⟨xup_ne (fun z => ?_), xup_ne (fun z => ?_)⟩) (fun i q q2 => xup_ne (fun z => ?_)) (Int.le_of_eq (ups_ne (by omega)).symm) (Int.le_of_eq (ups_ne (by omega)).symm)⟩
  · have := tcT_jc q; rw [z.1, z.2, hj] at this; omega
  · subst z; simp only [tjT, Bool.or_eq_true, Bool.and_eq_true, decide_eq_true_eq] at q; omega
  · have := (jcL_n l q).1; rw [z.1, z.2, hj] at this; omega
  · have := (jcL_n l q).2.1; rw [z.1, z.2, hj] at this; omega
  · subst z; have : mpd (990 + l) = false := (show ∀ l : Nat, l < 20 → mpd (990 + l) = false by decide +kernel) l q
    rw [this] at hm; cases hm
  · have := (jcT_n t q).1; rw [z.1, z.2, hj] at this; omega
  · have := (jcL_n l q).2.2; rw [z.1, z.2, hj] at this; omega
  · have := (jcL_n l q).2.1; rw [z.1, z.2, hj] at this; omega
  · have := jcI_n i q; rw [z.1, z.2, hj] at this; omega
/-- places of the class that the model doesn't know -/
def frc (c k : Nat) : Bool := decide (1550 ≤ jc c k) && !(decide (102 ≤ c) && decide (c < 122) && (decide (k = 0) || decide (k = 3) || decide (k = 4) || decide (k = 5) || decide (k = 9))) && !(decide (134 ≤ c) && decide (c < 154) && (decide (k = 3) || decide (k = 6)))
theorem R.cls {M M' : xM} {w : Nat → Int} (h : R M w) (hM : ∀ c k, frc c k = false → M' c k = M c k) : R M' w := by
  have hx : ∀ c k, 3 ≤ c → (jc c k < 1550 ∨ (102 ≤ c ∧ c < 122 ∧ (k = 0 ∨ k = 3 ∨ k = 4 ∨ k = 5 ∨ k = 9)) ∨ (134 ≤ c ∧ c < 154 ∧ (k = 3 ∨ k = 6))) → M' c k = M c k := fun c k _ q => hM c k (by
    simp only [frc, Bool.and_eq_false_iff, Bool.not_eq_false', Bool.and_eq_true, Bool.or_eq_true, decide_eq_true_eq, decide_eq_false_iff_not]
    omega)
  refine ⟨h.1.fr (fun c k q => hM c k ?_), h.2.1.fr (fun c k q => hM c k ?_) (fun _ _ => rfl), h.2.2.1.fr (fun l q => ⟨hx _ _ (by omega) (Or.inr (Or.inr (by omega))), hx _ _ (by omega) (Or.inr (Or.inr (by omega)))⟩) (fun _ _ => rfl) rfl, h.2.2.2.fr (fun t q => hx _ _ (by omega) (Or.inr (Or.inl (by omega)))) (fun l q q2 => ⟨hx _ _ (by omega) (Or.inl (by rw [(jcL_n l q).2.2]; omega)), hx _ _ (by omega) (Or.inr (Or.inr (by omega)))⟩) (fun i q q2 => hx _ _ (by omega) (Or.inl (by rw [jcI_n i q]; omega))) (Int.le_refl _) (Int.le_refl _)⟩
  · simp [frc]; omega
  · simp only [tcT, Bool.and_eq_true, Bool.or_eq_true, decide_eq_true_eq] at q
    simp only [frc, Bool.and_eq_false_iff, Bool.not_eq_false', Bool.and_eq_true, Bool.or_eq_true, decide_eq_true_eq, decide_eq_false_iff_not]
    omega
theorem R.cls1 {M : xM} {w : Nat → Int} (h : R M w) {c k : Nat} {v : Int} (hc : frc c k = true) : R (xup M c k v) w := h.cls (fun a b q => xup_ne (fun z => by rw [z.1, z.2, hc] at q; cases q))
theorem frc_out {c k : Nat} (h : c < 3 ∨ 195 ≤ c) : frc c k = true := by
  have : jc c k = 9999 := by
    unfold jc
    rcases h with h | h
    · rw [if_pos h]
    · repeat rw [if_neg (by omega)]
  simp [frc, this]; omega

theorem f_country : ∀ a, a < 10 → cj (20 + a) = (12 + 4 * a, 0) ∧ mpd (20 + a) = true ∧ off (20 + a) = 0 ∧ spj (20 + a) = false := by decide +kernel
theorem R.country {M : xM} {w : Nat → Int} (h : R M w) {a : Nat} (ha : a < 10) : M (12 + 4 * a) 0 = w (20 + a) := by
  obtain ⟨f1, f2, f3, f4⟩ := f_country a ha
  have q := h.1 (20 + a) f2 (by unfold live; refine ⟨?_, ?_, ?_, ?_, ?_, ?_, ?_, ?_, ?_, ?_⟩ <;> omega)
  rw [f1, f3] at q; rw [Int.add_zero] at q; exact q
theorem R.country_up {M : xM} {w : Nat → Int} (h : R M w) {a : Nat} (ha : a < 10) {v : Int} : R (xup M (12 + 4 * a) 0 v) (ups w (20 + a) v) := by
  obtain ⟨f1, f2, f3, f4⟩ := f_country a ha
  exact h.up f2 f1 (by rw [f3]; omega) f4
theorem f_pool : ∀ a, a < 10 → cj (10 + a) = (12 + 4 * a, 2) ∧ mpd (10 + a) = true ∧ off (10 + a) = 0 ∧ spj (10 + a) = false := by decide +kernel
theorem R.pool {M : xM} {w : Nat → Int} (h : R M w) {a : Nat} (ha : a < 10) : M (12 + 4 * a) 2 = w (10 + a) := by
  obtain ⟨f1, f2, f3, f4⟩ := f_pool a ha
  have q := h.1 (10 + a) f2 (by unfold live; refine ⟨?_, ?_, ?_, ?_, ?_, ?_, ?_, ?_, ?_, ?_⟩ <;> omega)
  rw [f1, f3] at q; rw [Int.add_zero] at q; exact q
theorem R.pool_up {M : xM} {w : Nat → Int} (h : R M w) {a : Nat} (ha : a < 10) {v : Int} : R (xup M (12 + 4 * a) 2 v) (ups w (10 + a) v) := by
  obtain ⟨f1, f2, f3, f4⟩ := f_pool a ha
  exact h.up f2 f1 (by rw [f3]; omega) f4
theorem f_lends : ∀ a, a < 10 → cj (60 + a) = (12 + 4 * a, 3) ∧ mpd (60 + a) = true ∧ off (60 + a) = 0 ∧ spj (60 + a) = false := by decide +kernel
theorem R.lends {M : xM} {w : Nat → Int} (h : R M w) {a : Nat} (ha : a < 10) : M (12 + 4 * a) 3 = w (60 + a) := by
  obtain ⟨f1, f2, f3, f4⟩ := f_lends a ha
  have q := h.1 (60 + a) f2 (by unfold live; refine ⟨?_, ?_, ?_, ?_, ?_, ?_, ?_, ?_, ?_, ?_⟩ <;> omega)
  rw [f1, f3] at q; rw [Int.add_zero] at q; exact q
theorem R.lends_up {M : xM} {w : Nat → Int} (h : R M w) {a : Nat} (ha : a < 10) {v : Int} : R (xup M (12 + 4 * a) 3 v) (ups w (60 + a) v) := by
  obtain ⟨f1, f2, f3, f4⟩ := f_lends a ha
  exact h.up f2 f1 (by rw [f3]; omega) f4
theorem f_rel : ∀ a, a < 10 → cj (70 + a) = (12 + 4 * a, 4) ∧ mpd (70 + a) = true ∧ off (70 + a) = 0 ∧ spj (70 + a) = false := by decide +kernel
theorem R.rel {M : xM} {w : Nat → Int} (h : R M w) {a : Nat} (ha : a < 10) : M (12 + 4 * a) 4 = w (70 + a) := by
  obtain ⟨f1, f2, f3, f4⟩ := f_rel a ha
  have q := h.1 (70 + a) f2 (by unfold live; refine ⟨?_, ?_, ?_, ?_, ?_, ?_, ?_, ?_, ?_, ?_⟩ <;> omega)
  rw [f1, f3] at q; rw [Int.add_zero] at q; exact q
theorem R.rel_up {M : xM} {w : Nat → Int} (h : R M w) {a : Nat} (ha : a < 10) {v : Int} : R (xup M (12 + 4 * a) 4 v) (ups w (70 + a) v) := by
  obtain ⟨f1, f2, f3, f4⟩ := f_rel a ha
  exact h.up f2 f1 (by rw [f3]; omega) f4
theorem f_cash : ∀ a, a < 10 → cj (30 + a) = (12 + 4 * a, 5) ∧ mpd (30 + a) = true ∧ off (30 + a) = 0 ∧ spj (30 + a) = false := by decide +kernel
theorem R.cash {M : xM} {w : Nat → Int} (h : R M w) {a : Nat} (ha : a < 10) : M (12 + 4 * a) 5 = w (30 + a) := by
  obtain ⟨f1, f2, f3, f4⟩ := f_cash a ha
  have q := h.1 (30 + a) f2 (by unfold live; refine ⟨?_, ?_, ?_, ?_, ?_, ?_, ?_, ?_, ?_, ?_⟩ <;> omega)
  rw [f1, f3] at q; rw [Int.add_zero] at q; exact q
theorem R.cash_up {M : xM} {w : Nat → Int} (h : R M w) {a : Nat} (ha : a < 10) {v : Int} : R (xup M (12 + 4 * a) 5 v) (ups w (30 + a) v) := by
  obtain ⟨f1, f2, f3, f4⟩ := f_cash a ha
  exact h.up f2 f1 (by rw [f3]; omega) f4
theorem f_pled : ∀ a, a < 10 → cj (40 + a) = (12 + 4 * a, 6) ∧ mpd (40 + a) = true ∧ off (40 + a) = 0 ∧ spj (40 + a) = false := by decide +kernel
theorem R.pled {M : xM} {w : Nat → Int} (h : R M w) {a : Nat} (ha : a < 10) : M (12 + 4 * a) 6 = w (40 + a) := by
  obtain ⟨f1, f2, f3, f4⟩ := f_pled a ha
  have q := h.1 (40 + a) f2 (by unfold live; refine ⟨?_, ?_, ?_, ?_, ?_, ?_, ?_, ?_, ?_, ?_⟩ <;> omega)
  rw [f1, f3] at q; rw [Int.add_zero] at q; exact q
theorem R.pled_up {M : xM} {w : Nat → Int} (h : R M w) {a : Nat} (ha : a < 10) {v : Int} : R (xup M (12 + 4 * a) 6 v) (ups w (40 + a) v) := by
  obtain ⟨f1, f2, f3, f4⟩ := f_pled a ha
  exact h.up f2 f1 (by rw [f3]; omega) f4
theorem f_line : ∀ a, a < 10 → cj (50 + a) = (12 + 4 * a, 7) ∧ mpd (50 + a) = true ∧ off (50 + a) = 0 ∧ spj (50 + a) = false := by decide +kernel
theorem R.line {M : xM} {w : Nat → Int} (h : R M w) {a : Nat} (ha : a < 10) : M (12 + 4 * a) 7 = w (50 + a) := by
  obtain ⟨f1, f2, f3, f4⟩ := f_line a ha
  have q := h.1 (50 + a) f2 (by unfold live; refine ⟨?_, ?_, ?_, ?_, ?_, ?_, ?_, ?_, ?_, ?_⟩ <;> omega)
  rw [f1, f3] at q; rw [Int.add_zero] at q; exact q
theorem R.line_up {M : xM} {w : Nat → Int} (h : R M w) {a : Nat} (ha : a < 10) {v : Int} : R (xup M (12 + 4 * a) 7 v) (ups w (50 + a) v) := by
  obtain ⟨f1, f2, f3, f4⟩ := f_line a ha
  exact h.up f2 f1 (by rw [f3]; omega) f4
theorem f_ledg : ∀ a, a < 10 → cj (80 + a) = (12 + 4 * a, 8) ∧ mpd (80 + a) = true ∧ off (80 + a) = 0 ∧ spj (80 + a) = false := by decide +kernel
theorem R.ledg {M : xM} {w : Nat → Int} (h : R M w) {a : Nat} (ha : a < 10) : M (12 + 4 * a) 8 = w (80 + a) := by
  obtain ⟨f1, f2, f3, f4⟩ := f_ledg a ha
  have q := h.1 (80 + a) f2 (by unfold live; refine ⟨?_, ?_, ?_, ?_, ?_, ?_, ?_, ?_, ?_, ?_⟩ <;> omega)
  rw [f1, f3] at q; rw [Int.add_zero] at q; exact q
theorem R.ledg_up {M : xM} {w : Nat → Int} (h : R M w) {a : Nat} (ha : a < 10) {v : Int} : R (xup M (12 + 4 * a) 8 v) (ups w (80 + a) v) := by
  obtain ⟨f1, f2, f3, f4⟩ := f_ledg a ha
  exact h.up f2 f1 (by rw [f3]; omega) f4
theorem f_cust : ∀ a, a < 10 → cj (a) = (12 + 4 * a, 1) ∧ mpd (a) = true ∧ off (a) = 0 ∧ spj (a) = false := by decide +kernel
theorem R.cust {M : xM} {w : Nat → Int} (h : R M w) {a : Nat} (ha : a < 10) (hlv : (a : Int) < w 1540) : M (12 + 4 * a) 1 = w (a) := by
  obtain ⟨f1, f2, f3, f4⟩ := f_cust a ha
  have q := h.1 (a) f2 (by unfold live; refine ⟨?_, ?_, ?_, ?_, ?_, ?_, ?_, ?_, ?_, ?_⟩ <;> omega)
  rw [f1, f3] at q; rw [Int.add_zero] at q; exact q
theorem R.cust_up {M : xM} {w : Nat → Int} (h : R M w) {a : Nat} (ha : a < 10) {v : Int} : R (xup M (12 + 4 * a) 1 v) (ups w (a) v) := by
  obtain ⟨f1, f2, f3, f4⟩ := f_cust a ha
  exact h.up f2 f1 (by rw [f3]; omega) f4
theorem f_held : ∀ a, a < 10 → ∀ s, s < 4 → cj (100 + 4 * a + s) = (13 + 4 * a, s) ∧ mpd (100 + 4 * a + s) = true ∧ off (100 + 4 * a + s) = 0 ∧ spj (100 + 4 * a + s) = false := by decide +kernel
theorem R.held {M : xM} {w : Nat → Int} (h : R M w) {a : Nat} (ha : a < 10) {s : Nat} (hs : s < 4) : M (13 + 4 * a) s = w (100 + 4 * a + s) := by
  obtain ⟨f1, f2, f3, f4⟩ := f_held a ha s hs
  have q := h.1 (100 + 4 * a + s) f2 (by unfold live; refine ⟨?_, ?_, ?_, ?_, ?_, ?_, ?_, ?_, ?_, ?_⟩ <;> omega)
  rw [f1, f3] at q; rw [Int.add_zero] at q; exact q
theorem R.held_up {M : xM} {w : Nat → Int} (h : R M w) {a : Nat} (ha : a < 10) {s : Nat} (hs : s < 4) {v : Int} : R (xup M (13 + 4 * a) s v) (ups w (100 + 4 * a + s) v) := by
  obtain ⟨f1, f2, f3, f4⟩ := f_held a ha s hs
  exact h.up f2 f1 (by rw [f3]; omega) f4
theorem f_blk : ∀ a, a < 10 → ∀ s, s < 4 → cj (140 + 4 * a + s) = (14 + 4 * a, s) ∧ mpd (140 + 4 * a + s) = true ∧ off (140 + 4 * a + s) = 0 ∧ spj (140 + 4 * a + s) = false := by decide +kernel
theorem R.blk {M : xM} {w : Nat → Int} (h : R M w) {a : Nat} (ha : a < 10) {s : Nat} (hs : s < 4) : M (14 + 4 * a) s = w (140 + 4 * a + s) := by
  obtain ⟨f1, f2, f3, f4⟩ := f_blk a ha s hs
  have q := h.1 (140 + 4 * a + s) f2 (by unfold live; refine ⟨?_, ?_, ?_, ?_, ?_, ?_, ?_, ?_, ?_, ?_⟩ <;> omega)
  rw [f1, f3] at q; rw [Int.add_zero] at q; exact q
theorem R.blk_up {M : xM} {w : Nat → Int} (h : R M w) {a : Nat} (ha : a < 10) {s : Nat} (hs : s < 4) {v : Int} : R (xup M (14 + 4 * a) s v) (ups w (140 + 4 * a + s) v) := by
  obtain ⟨f1, f2, f3, f4⟩ := f_blk a ha s hs
  exact h.up f2 f1 (by rw [f3]; omega) f4
theorem f_scty : ∀ s, s < 4 → cj (180 + s) = (56 + s, 0) ∧ mpd (180 + s) = true ∧ off (180 + s) = 0 ∧ spj (180 + s) = false := by decide +kernel
theorem R.scty {M : xM} {w : Nat → Int} (h : R M w) {s : Nat} (hs : s < 4) : M (56 + s) 0 = w (180 + s) := by
  obtain ⟨f1, f2, f3, f4⟩ := f_scty s hs
  have q := h.1 (180 + s) f2 (by unfold live; refine ⟨?_, ?_, ?_, ?_, ?_, ?_, ?_, ?_, ?_, ?_⟩ <;> omega)
  rw [f1, f3] at q; rw [Int.add_zero] at q; exact q
theorem R.scty_up {M : xM} {w : Nat → Int} (h : R M w) {s : Nat} (hs : s < 4) {v : Int} : R (xup M (56 + s) 0 v) (ups w (180 + s) v) := by
  obtain ⟨f1, f2, f3, f4⟩ := f_scty s hs
  exact h.up f2 f1 (by rw [f3]; omega) f4
theorem f_price : ∀ s, s < 4 → cj (184 + s) = (56 + s, 1) ∧ mpd (184 + s) = true ∧ off (184 + s) = 0 ∧ spj (184 + s) = false := by decide +kernel
theorem R.price {M : xM} {w : Nat → Int} (h : R M w) {s : Nat} (hs : s < 4) : M (56 + s) 1 = w (184 + s) := by
  obtain ⟨f1, f2, f3, f4⟩ := f_price s hs
  have q := h.1 (184 + s) f2 (by unfold live; refine ⟨?_, ?_, ?_, ?_, ?_, ?_, ?_, ?_, ?_, ?_⟩ <;> omega)
  rw [f1, f3] at q; rw [Int.add_zero] at q; exact q
theorem R.price_up {M : xM} {w : Nat → Int} (h : R M w) {s : Nat} (hs : s < 4) {v : Int} : R (xup M (56 + s) 1 v) (ups w (184 + s) v) := by
  obtain ⟨f1, f2, f3, f4⟩ := f_price s hs
  exact h.up f2 f1 (by rw [f3]; omega) f4
theorem f_rate : ∀ s, s < 4 → cj (188 + s) = (56 + s, 2) ∧ mpd (188 + s) = true ∧ off (188 + s) = 0 ∧ spj (188 + s) = false := by decide +kernel
theorem R.rate {M : xM} {w : Nat → Int} (h : R M w) {s : Nat} (hs : s < 4) : M (56 + s) 2 = w (188 + s) := by
  obtain ⟨f1, f2, f3, f4⟩ := f_rate s hs
  have q := h.1 (188 + s) f2 (by unfold live; refine ⟨?_, ?_, ?_, ?_, ?_, ?_, ?_, ?_, ?_, ?_⟩ <;> omega)
  rw [f1, f3] at q; rw [Int.add_zero] at q; exact q
theorem R.rate_up {M : xM} {w : Nat → Int} (h : R M w) {s : Nat} (hs : s < 4) {v : Int} : R (xup M (56 + s) 2 v) (ups w (188 + s) v) := by
  obtain ⟨f1, f2, f3, f4⟩ := f_rate s hs
  exact h.up f2 f1 (by rw [f3]; omega) f4
theorem f_sout : ∀ s, s < 4 → cj (192 + s) = (56 + s, 3) ∧ mpd (192 + s) = true ∧ off (192 + s) = 0 ∧ spj (192 + s) = false := by decide +kernel
theorem R.sout {M : xM} {w : Nat → Int} (h : R M w) {s : Nat} (hs : s < 4) : M (56 + s) 3 = w (192 + s) := by
  obtain ⟨f1, f2, f3, f4⟩ := f_sout s hs
  have q := h.1 (192 + s) f2 (by unfold live; refine ⟨?_, ?_, ?_, ?_, ?_, ?_, ?_, ?_, ?_, ?_⟩ <;> omega)
  rw [f1, f3] at q; rw [Int.add_zero] at q; exact q
theorem R.sout_up {M : xM} {w : Nat → Int} (h : R M w) {s : Nat} (hs : s < 4) {v : Int} : R (xup M (56 + s) 3 v) (ups w (192 + s) v) := by
  obtain ⟨f1, f2, f3, f4⟩ := f_sout s hs
  exact h.up f2 f1 (by rw [f3]; omega) f4
theorem f_trty : ∀ k, k < 9 → cj (196 + k) = (11, k) ∧ mpd (196 + k) = true ∧ off (196 + k) = 0 ∧ spj (196 + k) = false := by decide +kernel
theorem R.trty {M : xM} {w : Nat → Int} (h : R M w) {k : Nat} (hk : k < 9) : M (11) k = w (196 + k) := by
  obtain ⟨f1, f2, f3, f4⟩ := f_trty k hk
  have q := h.1 (196 + k) f2 (by unfold live; refine ⟨?_, ?_, ?_, ?_, ?_, ?_, ?_, ?_, ?_, ?_⟩ <;> omega)
  rw [f1, f3] at q; rw [Int.add_zero] at q; exact q
theorem R.trty_up {M : xM} {w : Nat → Int} (h : R M w) {k : Nat} (hk : k < 9) {v : Int} : R (xup M (11) k v) (ups w (196 + k) v) := by
  obtain ⟨f1, f2, f3, f4⟩ := f_trty k hk
  exact h.up f2 f1 (by rw [f3]; omega) f4
theorem f_iacc : ∀ i, i < 40 → cj (210 + i) = (61 + i, 0) ∧ mpd (210 + i) = true ∧ off (210 + i) = 0 ∧ spj (210 + i) = true := by decide +kernel
theorem R.iacc {M : xM} {w : Nat → Int} (h : R M w) {i : Nat} (hi : i < 40) : M (61 + i) 0 = w (210 + i) := by
  obtain ⟨f1, f2, f3, f4⟩ := f_iacc i hi
  have q := h.1 (210 + i) f2 (by unfold live; refine ⟨?_, ?_, ?_, ?_, ?_, ?_, ?_, ?_, ?_, ?_⟩ <;> omega)
  rw [f1, f3] at q; rw [Int.add_zero] at q; exact q
theorem f_ioth : ∀ i, i < 40 → cj (250 + i) = (61 + i, 1) ∧ mpd (250 + i) = true ∧ off (250 + i) = 0 ∧ spj (250 + i) = false := by decide +kernel
theorem R.ioth {M : xM} {w : Nat → Int} (h : R M w) {i : Nat} (hi : i < 40) : M (61 + i) 1 = w (250 + i) := by
  obtain ⟨f1, f2, f3, f4⟩ := f_ioth i hi
  have q := h.1 (250 + i) f2 (by unfold live; refine ⟨?_, ?_, ?_, ?_, ?_, ?_, ?_, ?_, ?_, ?_⟩ <;> omega)
  rw [f1, f3] at q; rw [Int.add_zero] at q; exact q
theorem R.ioth_up {M : xM} {w : Nat → Int} (h : R M w) {i : Nat} (hi : i < 40) {v : Int} : R (xup M (61 + i) 1 v) (ups w (250 + i) v) := by
  obtain ⟨f1, f2, f3, f4⟩ := f_ioth i hi
  exact h.up f2 f1 (by rw [f3]; omega) f4
theorem f_idel : ∀ i, i < 40 → cj (290 + i) = (61 + i, 2) ∧ mpd (290 + i) = true ∧ off (290 + i) = 0 ∧ spj (290 + i) = false := by decide +kernel
theorem R.idel {M : xM} {w : Nat → Int} (h : R M w) {i : Nat} (hi : i < 40) : M (61 + i) 2 = w (290 + i) := by
  obtain ⟨f1, f2, f3, f4⟩ := f_idel i hi
  have q := h.1 (290 + i) f2 (by unfold live; refine ⟨?_, ?_, ?_, ?_, ?_, ?_, ?_, ?_, ?_, ?_⟩ <;> omega)
  rw [f1, f3] at q; rw [Int.add_zero] at q; exact q
theorem R.idel_up {M : xM} {w : Nat → Int} (h : R M w) {i : Nat} (hi : i < 40) {v : Int} : R (xup M (61 + i) 2 v) (ups w (290 + i) v) := by
  obtain ⟨f1, f2, f3, f4⟩ := f_idel i hi
  exact h.up f2 f1 (by rw [f3]; omega) f4
theorem f_isec : ∀ i, i < 40 → cj (330 + i) = (61 + i, 3) ∧ mpd (330 + i) = true ∧ off (330 + i) = 0 ∧ spj (330 + i) = true := by decide +kernel
theorem R.isec {M : xM} {w : Nat → Int} (h : R M w) {i : Nat} (hi : i < 40) : M (61 + i) 3 = w (330 + i) := by
  obtain ⟨f1, f2, f3, f4⟩ := f_isec i hi
  have q := h.1 (330 + i) f2 (by unfold live; refine ⟨?_, ?_, ?_, ?_, ?_, ?_, ?_, ?_, ?_, ?_⟩ <;> omega)
  rw [f1, f3] at q; rw [Int.add_zero] at q; exact q
theorem f_iun : ∀ i, i < 40 → cj (370 + i) = (61 + i, 4) ∧ mpd (370 + i) = true ∧ off (370 + i) = 0 ∧ spj (370 + i) = false := by decide +kernel
theorem R.iun {M : xM} {w : Nat → Int} (h : R M w) {i : Nat} (hi : i < 40) : M (61 + i) 4 = w (370 + i) := by
  obtain ⟨f1, f2, f3, f4⟩ := f_iun i hi
  have q := h.1 (370 + i) f2 (by unfold live; refine ⟨?_, ?_, ?_, ?_, ?_, ?_, ?_, ?_, ?_, ?_⟩ <;> omega)
  rw [f1, f3] at q; rw [Int.add_zero] at q; exact q
theorem R.iun_up {M : xM} {w : Nat → Int} (h : R M w) {i : Nat} (hi : i < 40) {v : Int} : R (xup M (61 + i) 4 v) (ups w (370 + i) v) := by
  obtain ⟨f1, f2, f3, f4⟩ := f_iun i hi
  exact h.up f2 f1 (by rw [f3]; omega) f4
theorem f_iam : ∀ i, i < 40 → cj (410 + i) = (61 + i, 5) ∧ mpd (410 + i) = true ∧ off (410 + i) = 0 ∧ spj (410 + i) = false := by decide +kernel
theorem R.iam {M : xM} {w : Nat → Int} (h : R M w) {i : Nat} (hi : i < 40) : M (61 + i) 5 = w (410 + i) := by
  obtain ⟨f1, f2, f3, f4⟩ := f_iam i hi
  have q := h.1 (410 + i) f2 (by unfold live; refine ⟨?_, ?_, ?_, ?_, ?_, ?_, ?_, ?_, ?_, ?_⟩ <;> omega)
  rw [f1, f3] at q; rw [Int.add_zero] at q; exact q
theorem R.iam_up {M : xM} {w : Nat → Int} (h : R M w) {i : Nat} (hi : i < 40) {v : Int} : R (xup M (61 + i) 5 v) (ups w (410 + i) v) := by
  obtain ⟨f1, f2, f3, f4⟩ := f_iam i hi
  exact h.up f2 f1 (by rw [f3]; omega) f4
theorem f_idate : ∀ i, i < 40 → cj (450 + i) = (61 + i, 6) ∧ mpd (450 + i) = true ∧ off (450 + i) = 0 ∧ spj (450 + i) = true := by decide +kernel
theorem R.idate {M : xM} {w : Nat → Int} (h : R M w) {i : Nat} (hi : i < 40) : M (61 + i) 6 = w (450 + i) := by
  obtain ⟨f1, f2, f3, f4⟩ := f_idate i hi
  have q := h.1 (450 + i) f2 (by unfold live; refine ⟨?_, ?_, ?_, ?_, ?_, ?_, ?_, ?_, ?_, ?_⟩ <;> omega)
  rw [f1, f3] at q; rw [Int.add_zero] at q; exact q
theorem f_ipri : ∀ i, i < 40 → cj (490 + i) = (61 + i, 7) ∧ mpd (490 + i) = true ∧ off (490 + i) = 0 ∧ spj (490 + i) = false := by decide +kernel
theorem R.ipri {M : xM} {w : Nat → Int} (h : R M w) {i : Nat} (hi : i < 40) : M (61 + i) 7 = w (490 + i) := by
  obtain ⟨f1, f2, f3, f4⟩ := f_ipri i hi
  have q := h.1 (490 + i) f2 (by unfold live; refine ⟨?_, ?_, ?_, ?_, ?_, ?_, ?_, ?_, ?_, ?_⟩ <;> omega)
  rw [f1, f3] at q; rw [Int.add_zero] at q; exact q
theorem R.ipri_up {M : xM} {w : Nat → Int} (h : R M w) {i : Nat} (hi : i < 40) {v : Int} : R (xup M (61 + i) 7 v) (ups w (490 + i) v) := by
  obtain ⟨f1, f2, f3, f4⟩ := f_ipri i hi
  exact h.up f2 f1 (by rw [f3]; omega) f4
theorem f_ilea : ∀ i, i < 40 → cj (530 + i) = (61 + i, 8) ∧ mpd (530 + i) = true ∧ off (530 + i) = 0 ∧ spj (530 + i) = false := by decide +kernel
theorem R.ilea {M : xM} {w : Nat → Int} (h : R M w) {i : Nat} (hi : i < 40) : M (61 + i) 8 = w (530 + i) := by
  obtain ⟨f1, f2, f3, f4⟩ := f_ilea i hi
  have q := h.1 (530 + i) f2 (by unfold live; refine ⟨?_, ?_, ?_, ?_, ?_, ?_, ?_, ?_, ?_, ?_⟩ <;> omega)
  rw [f1, f3] at q; rw [Int.add_zero] at q; exact q
theorem R.ilea_up {M : xM} {w : Nat → Int} (h : R M w) {i : Nat} (hi : i < 40) {v : Int} : R (xup M (61 + i) 8 v) (ups w (530 + i) v) := by
  obtain ⟨f1, f2, f3, f4⟩ := f_ilea i hi
  exact h.up f2 f1 (by rw [f3]; omega) f4
theorem f_ist : ∀ i, i < 40 → cj (570 + i) = (61 + i, 9) ∧ mpd (570 + i) = true ∧ off (570 + i) = 0 ∧ spj (570 + i) = false := by decide +kernel
theorem R.ist {M : xM} {w : Nat → Int} (h : R M w) {i : Nat} (hi : i < 40) : M (61 + i) 9 = w (570 + i) := by
  obtain ⟨f1, f2, f3, f4⟩ := f_ist i hi
  have q := h.1 (570 + i) f2 (by unfold live; refine ⟨?_, ?_, ?_, ?_, ?_, ?_, ?_, ?_, ?_, ?_⟩ <;> omega)
  rw [f1, f3] at q; rw [Int.add_zero] at q; exact q
theorem R.ist_up {M : xM} {w : Nat → Int} (h : R M w) {i : Nat} (hi : i < 40) {v : Int} : R (xup M (61 + i) 9 v) (ups w (570 + i) v) := by
  obtain ⟨f1, f2, f3, f4⟩ := f_ist i hi
  exact h.up f2 f1 (by rw [f3]; omega) f4
theorem f_iheld : ∀ i, i < 40 → cj (610 + i) = (61 + i, 11) ∧ mpd (610 + i) = true ∧ off (610 + i) = 0 ∧ spj (610 + i) = false := by decide +kernel
theorem R.iheld {M : xM} {w : Nat → Int} (h : R M w) {i : Nat} (hi : i < 40) : M (61 + i) 11 = w (610 + i) := by
  obtain ⟨f1, f2, f3, f4⟩ := f_iheld i hi
  have q := h.1 (610 + i) f2 (by unfold live; refine ⟨?_, ?_, ?_, ?_, ?_, ?_, ?_, ?_, ?_, ?_⟩ <;> omega)
  rw [f1, f3] at q; rw [Int.add_zero] at q; exact q
theorem R.iheld_up {M : xM} {w : Nat → Int} (h : R M w) {i : Nat} (hi : i < 40) {v : Int} : R (xup M (61 + i) 11 v) (ups w (610 + i) v) := by
  obtain ⟨f1, f2, f3, f4⟩ := f_iheld i hi
  exact h.up f2 f1 (by rw [f3]; omega) f4
theorem f_ican : ∀ i, i < 40 → cj (690 + i) = (61 + i, 12) ∧ mpd (690 + i) = true ∧ off (690 + i) = 0 ∧ spj (690 + i) = false := by decide +kernel
theorem R.ican {M : xM} {w : Nat → Int} (h : R M w) {i : Nat} (hi : i < 40) : M (61 + i) 12 = w (690 + i) := by
  obtain ⟨f1, f2, f3, f4⟩ := f_ican i hi
  have q := h.1 (690 + i) f2 (by unfold live; refine ⟨?_, ?_, ?_, ?_, ?_, ?_, ?_, ?_, ?_, ?_⟩ <;> omega)
  rw [f1, f3] at q; rw [Int.add_zero] at q; exact q
theorem R.ican_up {M : xM} {w : Nat → Int} (h : R M w) {i : Nat} (hi : i < 40) {v : Int} : R (xup M (61 + i) 12 v) (ups w (690 + i) v) := by
  obtain ⟨f1, f2, f3, f4⟩ := f_ican i hi
  exact h.up f2 f1 (by rw [f3]; omega) f4
theorem f_itr : ∀ i, i < 40 → cj (650 + i) = (61 + i, 10) ∧ mpd (650 + i) = true ∧ off (650 + i) = 0 ∧ spj (650 + i) = true := by decide +kernel
theorem R.itr {M : xM} {w : Nat → Int} (h : R M w) {i : Nat} (hi : i < 40) (hlv : (i : Int) < w 1542) : M (61 + i) 10 = w (650 + i) := by
  obtain ⟨f1, f2, f3, f4⟩ := f_itr i hi
  have q := h.1 (650 + i) f2 (by unfold live; refine ⟨?_, ?_, ?_, ?_, ?_, ?_, ?_, ?_, ?_, ?_⟩ <;> omega)
  rw [f1, f3] at q; rw [Int.add_zero] at q; exact q
theorem f_tdel : ∀ t, t < 20 → cj (730 + t) = (102 + t, 1) ∧ mpd (730 + t) = true ∧ off (730 + t) = 0 ∧ spj (730 + t) = true := by decide +kernel
theorem R.tdel {M : xM} {w : Nat → Int} (h : R M w) {t : Nat} (ht : t < 20) : M (102 + t) 1 = w (730 + t) := by
  obtain ⟨f1, f2, f3, f4⟩ := f_tdel t ht
  have q := h.1 (730 + t) f2 (by unfold live; refine ⟨?_, ?_, ?_, ?_, ?_, ?_, ?_, ?_, ?_, ?_⟩ <;> omega)
  rw [f1, f3] at q; rw [Int.add_zero] at q; exact q
theorem f_trec : ∀ t, t < 20 → cj (750 + t) = (102 + t, 2) ∧ mpd (750 + t) = true ∧ off (750 + t) = 0 ∧ spj (750 + t) = true := by decide +kernel
theorem R.trec {M : xM} {w : Nat → Int} (h : R M w) {t : Nat} (ht : t < 20) : M (102 + t) 2 = w (750 + t) := by
  obtain ⟨f1, f2, f3, f4⟩ := f_trec t ht
  have q := h.1 (750 + t) f2 (by unfold live; refine ⟨?_, ?_, ?_, ?_, ?_, ?_, ?_, ?_, ?_, ?_⟩ <;> omega)
  rw [f1, f3] at q; rw [Int.add_zero] at q; exact q
theorem f_tun : ∀ t, t < 20 → cj (770 + t) = (102 + t, 6) ∧ mpd (770 + t) = true ∧ off (770 + t) = 0 ∧ spj (770 + t) = false := by decide +kernel
theorem R.tun {M : xM} {w : Nat → Int} (h : R M w) {t : Nat} (ht : t < 20) : M (102 + t) 6 = w (770 + t) := by
  obtain ⟨f1, f2, f3, f4⟩ := f_tun t ht
  have q := h.1 (770 + t) f2 (by unfold live; refine ⟨?_, ?_, ?_, ?_, ?_, ?_, ?_, ?_, ?_, ?_⟩ <;> omega)
  rw [f1, f3] at q; rw [Int.add_zero] at q; exact q
theorem R.tun_up {M : xM} {w : Nat → Int} (h : R M w) {t : Nat} (ht : t < 20) {v : Int} : R (xup M (102 + t) 6 v) (ups w (770 + t) v) := by
  obtain ⟨f1, f2, f3, f4⟩ := f_tun t ht
  exact h.up f2 f1 (by rw [f3]; omega) f4
theorem f_tam : ∀ t, t < 20 → cj (790 + t) = (102 + t, 7) ∧ mpd (790 + t) = true ∧ off (790 + t) = 0 ∧ spj (790 + t) = false := by decide +kernel
theorem R.tam {M : xM} {w : Nat → Int} (h : R M w) {t : Nat} (ht : t < 20) : M (102 + t) 7 = w (790 + t) := by
  obtain ⟨f1, f2, f3, f4⟩ := f_tam t ht
  have q := h.1 (790 + t) f2 (by unfold live; refine ⟨?_, ?_, ?_, ?_, ?_, ?_, ?_, ?_, ?_, ?_⟩ <;> omega)
  rw [f1, f3] at q; rw [Int.add_zero] at q; exact q
theorem R.tam_up {M : xM} {w : Nat → Int} (h : R M w) {t : Nat} (ht : t < 20) {v : Int} : R (xup M (102 + t) 7 v) (ups w (790 + t) v) := by
  obtain ⟨f1, f2, f3, f4⟩ := f_tam t ht
  exact h.up f2 f1 (by rw [f3]; omega) f4
theorem f_tlea : ∀ t, t < 20 → cj (830 + t) = (102 + t, 8) ∧ mpd (830 + t) = true ∧ off (830 + t) = 0 ∧ spj (830 + t) = false := by decide +kernel
theorem R.tlea {M : xM} {w : Nat → Int} (h : R M w) {t : Nat} (ht : t < 20) : M (102 + t) 8 = w (830 + t) := by
  obtain ⟨f1, f2, f3, f4⟩ := f_tlea t ht
  have q := h.1 (830 + t) f2 (by unfold live; refine ⟨?_, ?_, ?_, ?_, ?_, ?_, ?_, ?_, ?_, ?_⟩ <;> omega)
  rw [f1, f3] at q; rw [Int.add_zero] at q; exact q
theorem R.tlea_up {M : xM} {w : Nat → Int} (h : R M w) {t : Nat} (ht : t < 20) {v : Int} : R (xup M (102 + t) 8 v) (ups w (830 + t) v) := by
  obtain ⟨f1, f2, f3, f4⟩ := f_tlea t ht
  exact h.up f2 f1 (by rw [f3]; omega) f4
theorem f_tpri : ∀ t, t < 20 → cj (810 + t) = (102 + t, 10) ∧ mpd (810 + t) = true ∧ off (810 + t) = 0 ∧ spj (810 + t) = false := by decide +kernel
theorem R.tpri {M : xM} {w : Nat → Int} (h : R M w) {t : Nat} (ht : t < 20) : M (102 + t) 10 = w (810 + t) := by
  obtain ⟨f1, f2, f3, f4⟩ := f_tpri t ht
  have q := h.1 (810 + t) f2 (by unfold live; refine ⟨?_, ?_, ?_, ?_, ?_, ?_, ?_, ?_, ?_, ?_⟩ <;> omega)
  rw [f1, f3] at q; rw [Int.add_zero] at q; exact q
theorem R.tpri_up {M : xM} {w : Nat → Int} (h : R M w) {t : Nat} (ht : t < 20) {v : Int} : R (xup M (102 + t) 10 v) (ups w (810 + t) v) := by
  obtain ⟨f1, f2, f3, f4⟩ := f_tpri t ht
  exact h.up f2 f1 (by rw [f3]; omega) f4
theorem f_tage : ∀ t, t < 20 → cj (850 + t) = (102 + t, 11) ∧ mpd (850 + t) = true ∧ off (850 + t) = 0 ∧ spj (850 + t) = false := by decide +kernel
theorem R.tage {M : xM} {w : Nat → Int} (h : R M w) {t : Nat} (ht : t < 20) : M (102 + t) 11 = w (850 + t) := by
  obtain ⟨f1, f2, f3, f4⟩ := f_tage t ht
  have q := h.1 (850 + t) f2 (by unfold live; refine ⟨?_, ?_, ?_, ?_, ?_, ?_, ?_, ?_, ?_, ?_⟩ <;> omega)
  rw [f1, f3] at q; rw [Int.add_zero] at q; exact q
theorem R.tage_up {M : xM} {w : Nat → Int} (h : R M w) {t : Nat} (ht : t < 20) {v : Int} : R (xup M (102 + t) 11 v) (ups w (850 + t) v) := by
  obtain ⟨f1, f2, f3, f4⟩ := f_tage t ht
  exact h.up f2 f1 (by rw [f3]; omega) f4
theorem f_tst : ∀ t, t < 20 → cj (870 + t) = (102 + t, 12) ∧ mpd (870 + t) = true ∧ off (870 + t) = 1 ∧ spj (870 + t) = false := by decide +kernel
theorem R.tst {M : xM} {w : Nat → Int} (h : R M w) {t : Nat} (ht : t < 20) : M (102 + t) 12 = w (870 + t) + 1 := by
  obtain ⟨f1, f2, f3, f4⟩ := f_tst t ht
  have q := h.1 (870 + t) f2 (by unfold live; refine ⟨?_, ?_, ?_, ?_, ?_, ?_, ?_, ?_, ?_, ?_⟩ <;> omega)
  rw [f1, f3] at q; exact q
theorem R.tst_up {M : xM} {w : Nat → Int} (h : R M w) {t : Nat} (ht : t < 20) {v u : Int} (hv : v = u + 1) : R (xup M (102 + t) 12 v) (ups w (870 + t) u) := by
  obtain ⟨f1, f2, f3, f4⟩ := f_tst t ht
  exact h.up f2 f1 (by rw [f3]; omega) f4
theorem f_kfst : ∀ k, k < 10 → cj (890 + k) = (123 + k, 0) ∧ mpd (890 + k) = true ∧ off (890 + k) = 0 ∧ spj (890 + k) = false := by decide +kernel
theorem R.kfst {M : xM} {w : Nat → Int} (h : R M w) {k : Nat} (hk : k < 10) (hlv : (k : Int) < w 1544) : M (123 + k) 0 = w (890 + k) := by
  obtain ⟨f1, f2, f3, f4⟩ := f_kfst k hk
  have q := h.1 (890 + k) f2 (by unfold live; refine ⟨?_, ?_, ?_, ?_, ?_, ?_, ?_, ?_, ?_, ?_⟩ <;> omega)
  rw [f1, f3] at q; rw [Int.add_zero] at q; exact q
theorem R.kfst_up {M : xM} {w : Nat → Int} (h : R M w) {k : Nat} (hk : k < 10) {v : Int} : R (xup M (123 + k) 0 v) (ups w (890 + k) v) := by
  obtain ⟨f1, f2, f3, f4⟩ := f_kfst k hk
  exact h.up f2 f1 (by rw [f3]; omega) f4
theorem f_ksnd : ∀ k, k < 10 → cj (900 + k) = (123 + k, 1) ∧ mpd (900 + k) = true ∧ off (900 + k) = 0 ∧ spj (900 + k) = false := by decide +kernel
theorem R.ksnd {M : xM} {w : Nat → Int} (h : R M w) {k : Nat} (hk : k < 10) (hlv : (k : Int) < w 1544) : M (123 + k) 1 = w (900 + k) := by
  obtain ⟨f1, f2, f3, f4⟩ := f_ksnd k hk
  have q := h.1 (900 + k) f2 (by unfold live; refine ⟨?_, ?_, ?_, ?_, ?_, ?_, ?_, ?_, ?_, ?_⟩ <;> omega)
  rw [f1, f3] at q; rw [Int.add_zero] at q; exact q
theorem R.ksnd_up {M : xM} {w : Nat → Int} (h : R M w) {k : Nat} (hk : k < 10) {v : Int} : R (xup M (123 + k) 1 v) (ups w (900 + k) v) := by
  obtain ⟨f1, f2, f3, f4⟩ := f_ksnd k hk
  exact h.up f2 f1 (by rw [f3]; omega) f4
theorem f_kwit : ∀ k, k < 10 → cj (910 + k) = (123 + k, 2) ∧ mpd (910 + k) = true ∧ off (910 + k) = 0 ∧ spj (910 + k) = false := by decide +kernel
theorem R.kwit {M : xM} {w : Nat → Int} (h : R M w) {k : Nat} (hk : k < 10) (hlv : (k : Int) < w 1544) : M (123 + k) 2 = w (910 + k) := by
  obtain ⟨f1, f2, f3, f4⟩ := f_kwit k hk
  have q := h.1 (910 + k) f2 (by unfold live; refine ⟨?_, ?_, ?_, ?_, ?_, ?_, ?_, ?_, ?_, ?_⟩ <;> omega)
  rw [f1, f3] at q; rw [Int.add_zero] at q; exact q
theorem R.kwit_up {M : xM} {w : Nat → Int} (h : R M w) {k : Nat} (hk : k < 10) {v : Int} : R (xup M (123 + k) 2 v) (ups w (910 + k) v) := by
  obtain ⟨f1, f2, f3, f4⟩ := f_kwit k hk
  exact h.up f2 f1 (by rw [f3]; omega) f4
theorem f_lbor : ∀ l, l < 20 → cj (930 + l) = (134 + l, 1) ∧ mpd (930 + l) = true ∧ off (930 + l) = 0 ∧ spj (930 + l) = false := by decide +kernel
theorem R.lbor {M : xM} {w : Nat → Int} (h : R M w) {l : Nat} (hl : l < 20) (hlv : (l : Int) < w 1545) : M (134 + l) 1 = w (930 + l) := by
  obtain ⟨f1, f2, f3, f4⟩ := f_lbor l hl
  have q := h.1 (930 + l) f2 (by unfold live; refine ⟨?_, ?_, ?_, ?_, ?_, ?_, ?_, ?_, ?_, ?_⟩ <;> omega)
  rw [f1, f3] at q; rw [Int.add_zero] at q; exact q
theorem R.lbor_up {M : xM} {w : Nat → Int} (h : R M w) {l : Nat} (hl : l < 20) {v : Int} : R (xup M (134 + l) 1 v) (ups w (930 + l) v) := by
  obtain ⟨f1, f2, f3, f4⟩ := f_lbor l hl
  exact h.up f2 f1 (by rw [f3]; omega) f4
theorem f_llen : ∀ l, l < 20 → cj (950 + l) = (134 + l, 0) ∧ mpd (950 + l) = true ∧ off (950 + l) = 0 ∧ spj (950 + l) = false := by decide +kernel
theorem R.llen {M : xM} {w : Nat → Int} (h : R M w) {l : Nat} (hl : l < 20) (hlv : (l : Int) < w 1545) : M (134 + l) 0 = w (950 + l) := by
  obtain ⟨f1, f2, f3, f4⟩ := f_llen l hl
  have q := h.1 (950 + l) f2 (by unfold live; refine ⟨?_, ?_, ?_, ?_, ?_, ?_, ?_, ?_, ?_, ?_⟩ <;> omega)
  rw [f1, f3] at q; rw [Int.add_zero] at q; exact q
theorem R.llen_up {M : xM} {w : Nat → Int} (h : R M w) {l : Nat} (hl : l < 20) {v : Int} : R (xup M (134 + l) 0 v) (ups w (950 + l) v) := by
  obtain ⟨f1, f2, f3, f4⟩ := f_llen l hl
  exact h.up f2 f1 (by rw [f3]; omega) f4
theorem f_lsec : ∀ l, l < 20 → cj (970 + l) = (134 + l, 2) ∧ mpd (970 + l) = true ∧ off (970 + l) = 0 ∧ spj (970 + l) = false := by decide +kernel
theorem R.lsec {M : xM} {w : Nat → Int} (h : R M w) {l : Nat} (hl : l < 20) (hlv : (l : Int) < w 1545) : M (134 + l) 2 = w (970 + l) := by
  obtain ⟨f1, f2, f3, f4⟩ := f_lsec l hl
  have q := h.1 (970 + l) f2 (by unfold live; refine ⟨?_, ?_, ?_, ?_, ?_, ?_, ?_, ?_, ?_, ?_⟩ <;> omega)
  rw [f1, f3] at q; rw [Int.add_zero] at q; exact q
theorem R.lsec_up {M : xM} {w : Nat → Int} (h : R M w) {l : Nat} (hl : l < 20) {v : Int} : R (xup M (134 + l) 2 v) (ups w (970 + l) v) := by
  obtain ⟨f1, f2, f3, f4⟩ := f_lsec l hl
  exact h.up f2 f1 (by rw [f3]; omega) f4
theorem f_lple : ∀ l, l < 20 → cj (1010 + l) = (134 + l, 4) ∧ mpd (1010 + l) = true ∧ off (1010 + l) = 0 ∧ spj (1010 + l) = false := by decide +kernel
theorem R.lple {M : xM} {w : Nat → Int} (h : R M w) {l : Nat} (hl : l < 20) (hlv : (l : Int) < w 1545) : M (134 + l) 4 = w (1010 + l) := by
  obtain ⟨f1, f2, f3, f4⟩ := f_lple l hl
  have q := h.1 (1010 + l) f2 (by unfold live; refine ⟨?_, ?_, ?_, ?_, ?_, ?_, ?_, ?_, ?_, ?_⟩ <;> omega)
  rw [f1, f3] at q; rw [Int.add_zero] at q; exact q
theorem R.lple_up {M : xM} {w : Nat → Int} (h : R M w) {l : Nat} (hl : l < 20) {v : Int} : R (xup M (134 + l) 4 v) (ups w (1010 + l) v) := by
  obtain ⟨f1, f2, f3, f4⟩ := f_lple l hl
  exact h.up f2 f1 (by rw [f3]; omega) f4
theorem f_lrec : ∀ l, l < 20 → cj (1030 + l) = (134 + l, 5) ∧ mpd (1030 + l) = true ∧ off (1030 + l) = 0 ∧ spj (1030 + l) = true := by decide +kernel
theorem R.lrec {M : xM} {w : Nat → Int} (h : R M w) {l : Nat} (hl : l < 20) (hlv : (l : Int) < w 1545) : M (134 + l) 5 = w (1030 + l) := by
  obtain ⟨f1, f2, f3, f4⟩ := f_lrec l hl
  have q := h.1 (1030 + l) f2 (by unfold live; refine ⟨?_, ?_, ?_, ?_, ?_, ?_, ?_, ?_, ?_, ?_⟩ <;> omega)
  rw [f1, f3] at q; rw [Int.add_zero] at q; exact q
theorem f_ekin : ∀ e, e < 10 → cj (1050 + e) = (155 + 4 * e, 0) ∧ mpd (1050 + e) = true ∧ off (1050 + e) = 0 ∧ spj (1050 + e) = false := by decide +kernel
theorem R.ekin {M : xM} {w : Nat → Int} (h : R M w) {e : Nat} (he : e < 10) : M (155 + 4 * e) 0 = w (1050 + e) := by
  obtain ⟨f1, f2, f3, f4⟩ := f_ekin e he
  have q := h.1 (1050 + e) f2 (by unfold live; refine ⟨?_, ?_, ?_, ?_, ?_, ?_, ?_, ?_, ?_, ?_⟩ <;> omega)
  rw [f1, f3] at q; rw [Int.add_zero] at q; exact q
theorem R.ekin_up {M : xM} {w : Nat → Int} (h : R M w) {e : Nat} (he : e < 10) {v : Int} : R (xup M (155 + 4 * e) 0 v) (ups w (1050 + e) v) := by
  obtain ⟨f1, f2, f3, f4⟩ := f_ekin e he
  exact h.up f2 f1 (by rw [f3]; omega) f4
theorem f_esec : ∀ e, e < 10 → cj (1060 + e) = (155 + 4 * e, 1) ∧ mpd (1060 + e) = true ∧ off (1060 + e) = 0 ∧ spj (1060 + e) = false := by decide +kernel
theorem R.esec {M : xM} {w : Nat → Int} (h : R M w) {e : Nat} (he : e < 10) : M (155 + 4 * e) 1 = w (1060 + e) := by
  obtain ⟨f1, f2, f3, f4⟩ := f_esec e he
  have q := h.1 (1060 + e) f2 (by unfold live; refine ⟨?_, ?_, ?_, ?_, ?_, ?_, ?_, ?_, ?_, ?_⟩ <;> omega)
  rw [f1, f3] at q; rw [Int.add_zero] at q; exact q
theorem R.esec_up {M : xM} {w : Nat → Int} (h : R M w) {e : Nat} (he : e < 10) {v : Int} : R (xup M (155 + 4 * e) 1 v) (ups w (1060 + e) v) := by
  obtain ⟨f1, f2, f3, f4⟩ := f_esec e he
  exact h.up f2 f1 (by rw [f3]; omega) f4
theorem f_ea : ∀ e, e < 10 → cj (1070 + e) = (155 + 4 * e, 2) ∧ mpd (1070 + e) = true ∧ off (1070 + e) = 0 ∧ spj (1070 + e) = false := by decide +kernel
theorem R.ea {M : xM} {w : Nat → Int} (h : R M w) {e : Nat} (he : e < 10) : M (155 + 4 * e) 2 = w (1070 + e) := by
  obtain ⟨f1, f2, f3, f4⟩ := f_ea e he
  have q := h.1 (1070 + e) f2 (by unfold live; refine ⟨?_, ?_, ?_, ?_, ?_, ?_, ?_, ?_, ?_, ?_⟩ <;> omega)
  rw [f1, f3] at q; rw [Int.add_zero] at q; exact q
theorem R.ea_up {M : xM} {w : Nat → Int} (h : R M w) {e : Nat} (he : e < 10) {v : Int} : R (xup M (155 + 4 * e) 2 v) (ups w (1070 + e) v) := by
  obtain ⟨f1, f2, f3, f4⟩ := f_ea e he
  exact h.up f2 f1 (by rw [f3]; omega) f4
theorem f_eb : ∀ e, e < 10 → cj (1080 + e) = (155 + 4 * e, 3) ∧ mpd (1080 + e) = true ∧ off (1080 + e) = 0 ∧ spj (1080 + e) = false := by decide +kernel
theorem R.eb {M : xM} {w : Nat → Int} (h : R M w) {e : Nat} (he : e < 10) : M (155 + 4 * e) 3 = w (1080 + e) := by
  obtain ⟨f1, f2, f3, f4⟩ := f_eb e he
  have q := h.1 (1080 + e) f2 (by unfold live; refine ⟨?_, ?_, ?_, ?_, ?_, ?_, ?_, ?_, ?_, ?_⟩ <;> omega)
  rw [f1, f3] at q; rw [Int.add_zero] at q; exact q
theorem R.eb_up {M : xM} {w : Nat → Int} (h : R M w) {e : Nat} (he : e < 10) {v : Int} : R (xup M (155 + 4 * e) 3 v) (ups w (1080 + e) v) := by
  obtain ⟨f1, f2, f3, f4⟩ := f_eb e he
  exact h.up f2 f1 (by rw [f3]; omega) f4
theorem f_ecap : ∀ e, e < 10 → cj (1090 + e) = (155 + 4 * e, 4) ∧ mpd (1090 + e) = true ∧ off (1090 + e) = 0 ∧ spj (1090 + e) = false := by decide +kernel
theorem R.ecap {M : xM} {w : Nat → Int} (h : R M w) {e : Nat} (he : e < 10) : M (155 + 4 * e) 4 = w (1090 + e) := by
  obtain ⟨f1, f2, f3, f4⟩ := f_ecap e he
  have q := h.1 (1090 + e) f2 (by unfold live; refine ⟨?_, ?_, ?_, ?_, ?_, ?_, ?_, ?_, ?_, ?_⟩ <;> omega)
  rw [f1, f3] at q; rw [Int.add_zero] at q; exact q
theorem R.ecap_up {M : xM} {w : Nat → Int} (h : R M w) {e : Nat} (he : e < 10) {v : Int} : R (xup M (155 + 4 * e) 4 v) (ups w (1090 + e) v) := by
  obtain ⟨f1, f2, f3, f4⟩ := f_ecap e he
  exact h.up f2 f1 (by rw [f3]; omega) f4
theorem f_erec : ∀ e, e < 10 → cj (1100 + e) = (155 + 4 * e, 5) ∧ mpd (1100 + e) = true ∧ off (1100 + e) = 0 ∧ spj (1100 + e) = false := by decide +kernel
theorem R.erec {M : xM} {w : Nat → Int} (h : R M w) {e : Nat} (he : e < 10) : M (155 + 4 * e) 5 = w (1100 + e) := by
  obtain ⟨f1, f2, f3, f4⟩ := f_erec e he
  have q := h.1 (1100 + e) f2 (by unfold live; refine ⟨?_, ?_, ?_, ?_, ?_, ?_, ?_, ?_, ?_, ?_⟩ <;> omega)
  rw [f1, f3] at q; rw [Int.add_zero] at q; exact q
theorem R.erec_up {M : xM} {w : Nat → Int} (h : R M w) {e : Nat} (he : e < 10) {v : Int} : R (xup M (155 + 4 * e) 5 v) (ups w (1100 + e) v) := by
  obtain ⟨f1, f2, f3, f4⟩ := f_erec e he
  exact h.up f2 f1 (by rw [f3]; omega) f4
theorem f_epay : ∀ e, e < 10 → cj (1110 + e) = (155 + 4 * e, 6) ∧ mpd (1110 + e) = true ∧ off (1110 + e) = 0 ∧ spj (1110 + e) = false := by decide +kernel
theorem R.epay {M : xM} {w : Nat → Int} (h : R M w) {e : Nat} (he : e < 10) : M (155 + 4 * e) 6 = w (1110 + e) := by
  obtain ⟨f1, f2, f3, f4⟩ := f_epay e he
  have q := h.1 (1110 + e) f2 (by unfold live; refine ⟨?_, ?_, ?_, ?_, ?_, ?_, ?_, ?_, ?_, ?_⟩ <;> omega)
  rw [f1, f3] at q; rw [Int.add_zero] at q; exact q
theorem R.epay_up {M : xM} {w : Nat → Int} (h : R M w) {e : Nat} (he : e < 10) {v : Int} : R (xup M (155 + 4 * e) 6 v) (ups w (1110 + e) v) := by
  obtain ⟨f1, f2, f3, f4⟩ := f_epay e he
  exact h.up f2 f1 (by rw [f3]; omega) f4
theorem f_enot : ∀ e, e < 10 → cj (1120 + e) = (155 + 4 * e, 7) ∧ mpd (1120 + e) = true ∧ off (1120 + e) = 0 ∧ spj (1120 + e) = false := by decide +kernel
theorem R.enot {M : xM} {w : Nat → Int} (h : R M w) {e : Nat} (he : e < 10) : M (155 + 4 * e) 7 = w (1120 + e) := by
  obtain ⟨f1, f2, f3, f4⟩ := f_enot e he
  have q := h.1 (1120 + e) f2 (by unfold live; refine ⟨?_, ?_, ?_, ?_, ?_, ?_, ?_, ?_, ?_, ?_⟩ <;> omega)
  rw [f1, f3] at q; rw [Int.add_zero] at q; exact q
theorem R.enot_up {M : xM} {w : Nat → Int} (h : R M w) {e : Nat} (he : e < 10) {v : Int} : R (xup M (155 + 4 * e) 7 v) (ups w (1120 + e) v) := by
  obtain ⟨f1, f2, f3, f4⟩ := f_enot e he
  exact h.up f2 f1 (by rw [f3]; omega) f4
theorem f_edon : ∀ e, e < 10 → cj (1130 + e) = (155 + 4 * e, 8) ∧ mpd (1130 + e) = true ∧ off (1130 + e) = 0 ∧ spj (1130 + e) = false := by decide +kernel
theorem R.edon {M : xM} {w : Nat → Int} (h : R M w) {e : Nat} (he : e < 10) : M (155 + 4 * e) 8 = w (1130 + e) := by
  obtain ⟨f1, f2, f3, f4⟩ := f_edon e he
  have q := h.1 (1130 + e) f2 (by unfold live; refine ⟨?_, ?_, ?_, ?_, ?_, ?_, ?_, ?_, ?_, ?_⟩ <;> omega)
  rw [f1, f3] at q; rw [Int.add_zero] at q; exact q
theorem R.edon_up {M : xM} {w : Nat → Int} (h : R M w) {e : Nat} (he : e < 10) {v : Int} : R (xup M (155 + 4 * e) 8 v) (ups w (1130 + e) v) := by
  obtain ⟨f1, f2, f3, f4⟩ := f_edon e he
  exact h.up f2 f1 (by rw [f3]; omega) f4
theorem f_eent : ∀ e, e < 10 → ∀ a, a < 10 → cj (1140 + 10 * e + a) = (156 + 4 * e, a) ∧ mpd (1140 + 10 * e + a) = true ∧ off (1140 + 10 * e + a) = 0 ∧ spj (1140 + 10 * e + a) = false := by decide +kernel
theorem R.eent {M : xM} {w : Nat → Int} (h : R M w) {e : Nat} (he : e < 10) {a : Nat} (ha : a < 10) : M (156 + 4 * e) a = w (1140 + 10 * e + a) := by
  obtain ⟨f1, f2, f3, f4⟩ := f_eent e he a ha
  have q := h.1 (1140 + 10 * e + a) f2 (by unfold live; refine ⟨?_, ?_, ?_, ?_, ?_, ?_, ?_, ?_, ?_, ?_⟩ <;> omega)
  rw [f1, f3] at q; rw [Int.add_zero] at q; exact q
theorem R.eent_up {M : xM} {w : Nat → Int} (h : R M w) {e : Nat} (he : e < 10) {a : Nat} (ha : a < 10) {v : Int} : R (xup M (156 + 4 * e) a v) (ups w (1140 + 10 * e + a) v) := by
  obtain ⟨f1, f2, f3, f4⟩ := f_eent e he a ha
  exact h.up f2 f1 (by rw [f3]; omega) f4
theorem f_eele : ∀ e, e < 10 → ∀ a, a < 10 → cj (1240 + 10 * e + a) = (157 + 4 * e, a) ∧ mpd (1240 + 10 * e + a) = true ∧ off (1240 + 10 * e + a) = 0 ∧ spj (1240 + 10 * e + a) = false := by decide +kernel
theorem R.eele {M : xM} {w : Nat → Int} (h : R M w) {e : Nat} (he : e < 10) {a : Nat} (ha : a < 10) : M (157 + 4 * e) a = w (1240 + 10 * e + a) := by
  obtain ⟨f1, f2, f3, f4⟩ := f_eele e he a ha
  have q := h.1 (1240 + 10 * e + a) f2 (by unfold live; refine ⟨?_, ?_, ?_, ?_, ?_, ?_, ?_, ?_, ?_, ?_⟩ <;> omega)
  rw [f1, f3] at q; rw [Int.add_zero] at q; exact q
theorem R.eele_up {M : xM} {w : Nat → Int} (h : R M w) {e : Nat} (he : e < 10) {a : Nat} (ha : a < 10) {v : Int} : R (xup M (157 + 4 * e) a v) (ups w (1240 + 10 * e + a) v) := by
  obtain ⟨f1, f2, f3, f4⟩ := f_eele e he a ha
  exact h.up f2 f1 (by rw [f3]; omega) f4
theorem f_eclm : ∀ e, e < 10 → ∀ t, t < 20 → cj (1340 + 20 * e + t) = (158 + 4 * e, t) ∧ mpd (1340 + 20 * e + t) = true ∧ off (1340 + 20 * e + t) = 0 ∧ spj (1340 + 20 * e + t) = false := by decide +kernel
theorem R.eclm {M : xM} {w : Nat → Int} (h : R M w) {e : Nat} (he : e < 10) {t : Nat} (ht : t < 20) : M (158 + 4 * e) t = w (1340 + 20 * e + t) := by
  obtain ⟨f1, f2, f3, f4⟩ := f_eclm e he t ht
  have q := h.1 (1340 + 20 * e + t) f2 (by unfold live; refine ⟨?_, ?_, ?_, ?_, ?_, ?_, ?_, ?_, ?_, ?_⟩ <;> omega)
  rw [f1, f3] at q; rw [Int.add_zero] at q; exact q
theorem R.eclm_up {M : xM} {w : Nat → Int} (h : R M w) {e : Nat} (he : e < 10) {t : Nat} (ht : t < 20) {v : Int} : R (xup M (158 + 4 * e) t v) (ups w (1340 + 20 * e + t) v) := by
  obtain ⟨f1, f2, f3, f4⟩ := f_eclm e he t ht
  exact h.up f2 f1 (by rw [f3]; omega) f4
theorem f_nA :  cj (1540) = (3, 9) ∧ mpd (1540) = true ∧ off (1540) = 0 ∧ spj (1540) = true := by decide +kernel
theorem R.nA {M : xM} {w : Nat → Int} (h : R M w)  : M (3) 9 = w (1540) := by
  obtain ⟨f1, f2, f3, f4⟩ := f_nA 
  have q := h.1 (1540) f2 (by unfold live; refine ⟨?_, ?_, ?_, ?_, ?_, ?_, ?_, ?_, ?_, ?_⟩ <;> omega)
  rw [f1, f3] at q; rw [Int.add_zero] at q; exact q
theorem f_nS :  cj (1541) = (3, 10) ∧ mpd (1541) = true ∧ off (1541) = 0 ∧ spj (1541) = false := by decide +kernel
theorem R.nS {M : xM} {w : Nat → Int} (h : R M w)  : M (3) 10 = w (1541) := by
  obtain ⟨f1, f2, f3, f4⟩ := f_nS 
  have q := h.1 (1541) f2 (by unfold live; refine ⟨?_, ?_, ?_, ?_, ?_, ?_, ?_, ?_, ?_, ?_⟩ <;> omega)
  rw [f1, f3] at q; rw [Int.add_zero] at q; exact q
theorem R.nS_up {M : xM} {w : Nat → Int} (h : R M w)  {v : Int} : R (xup M (3) 10 v) (ups w (1541) v) := by
  obtain ⟨f1, f2, f3, f4⟩ := f_nS 
  exact h.up f2 f1 (by rw [f3]; omega) f4
theorem f_nI :  cj (1542) = (3, 11) ∧ mpd (1542) = true ∧ off (1542) = 0 ∧ spj (1542) = true := by decide +kernel
theorem R.nI {M : xM} {w : Nat → Int} (h : R M w)  : M (3) 11 = w (1542) := by
  obtain ⟨f1, f2, f3, f4⟩ := f_nI 
  have q := h.1 (1542) f2 (by unfold live; refine ⟨?_, ?_, ?_, ?_, ?_, ?_, ?_, ?_, ?_, ?_⟩ <;> omega)
  rw [f1, f3] at q; rw [Int.add_zero] at q; exact q
theorem f_nT :  cj (1543) = (3, 12) ∧ mpd (1543) = true ∧ off (1543) = 0 ∧ spj (1543) = true := by decide +kernel
theorem R.nT {M : xM} {w : Nat → Int} (h : R M w)  : M (3) 12 = w (1543) := by
  obtain ⟨f1, f2, f3, f4⟩ := f_nT 
  have q := h.1 (1543) f2 (by unfold live; refine ⟨?_, ?_, ?_, ?_, ?_, ?_, ?_, ?_, ?_, ?_⟩ <;> omega)
  rw [f1, f3] at q; rw [Int.add_zero] at q; exact q
theorem f_nK :  cj (1544) = (3, 13) ∧ mpd (1544) = true ∧ off (1544) = 0 ∧ spj (1544) = true := by decide +kernel
theorem R.nK {M : xM} {w : Nat → Int} (h : R M w)  : M (3) 13 = w (1544) := by
  obtain ⟨f1, f2, f3, f4⟩ := f_nK 
  have q := h.1 (1544) f2 (by unfold live; refine ⟨?_, ?_, ?_, ?_, ?_, ?_, ?_, ?_, ?_, ?_⟩ <;> omega)
  rw [f1, f3] at q; rw [Int.add_zero] at q; exact q
theorem f_nL :  cj (1545) = (3, 14) ∧ mpd (1545) = true ∧ off (1545) = 0 ∧ spj (1545) = true := by decide +kernel
theorem R.nL {M : xM} {w : Nat → Int} (h : R M w)  : M (3) 14 = w (1545) := by
  obtain ⟨f1, f2, f3, f4⟩ := f_nL 
  have q := h.1 (1545) f2 (by unfold live; refine ⟨?_, ?_, ?_, ?_, ?_, ?_, ?_, ?_, ?_, ?_⟩ <;> omega)
  rw [f1, f3] at q; rw [Int.add_zero] at q; exact q
theorem f_nE :  cj (1546) = (3, 15) ∧ mpd (1546) = true ∧ off (1546) = 0 ∧ spj (1546) = false := by decide +kernel
theorem R.nE {M : xM} {w : Nat → Int} (h : R M w)  : M (3) 15 = w (1546) := by
  obtain ⟨f1, f2, f3, f4⟩ := f_nE 
  have q := h.1 (1546) f2 (by unfold live; refine ⟨?_, ?_, ?_, ?_, ?_, ?_, ?_, ?_, ?_, ?_⟩ <;> omega)
  rw [f1, f3] at q; rw [Int.add_zero] at q; exact q
theorem R.nE_up {M : xM} {w : Nat → Int} (h : R M w)  {v : Int} : R (xup M (3) 15 v) (ups w (1546) v) := by
  obtain ⟨f1, f2, f3, f4⟩ := f_nE 
  exact h.up f2 f1 (by rw [f3]; omega) f4
theorem f_day :  cj (1547) = (3, 16) ∧ mpd (1547) = true ∧ off (1547) = 0 ∧ spj (1547) = false := by decide +kernel
theorem R.day {M : xM} {w : Nat → Int} (h : R M w)  : M (3) 16 = w (1547) := by
  obtain ⟨f1, f2, f3, f4⟩ := f_day 
  have q := h.1 (1547) f2 (by unfold live; refine ⟨?_, ?_, ?_, ?_, ?_, ?_, ?_, ?_, ?_, ?_⟩ <;> omega)
  rw [f1, f3] at q; rw [Int.add_zero] at q; exact q
theorem R.day_up {M : xM} {w : Nat → Int} (h : R M w)  {v : Int} : R (xup M (3) 16 v) (ups w (1547) v) := by
  obtain ⟨f1, f2, f3, f4⟩ := f_day 
  exact h.up f2 f1 (by rw [f3]; omega) f4
