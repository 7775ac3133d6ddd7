/-- a call without exceptions -/
def OK0 (F : xO) (G : xM → xO) (n : Nat) : Prop := ∃ z M2 M4, F = some (.inl z, M2) ∧ G M2 = some (.inl z, M4) ∧ Rel M4 n
def OKb (F : xO) (G : xM → xO) (n : Nat) : Prop := ∃ k M2 z M4, F = some (.inl k, M2) ∧ G M2 = some (.inl z, M4) ∧ M4 400 7 = k ∧ (k = 0 → M4 406 0 = z ∧ B01 z) ∧ Rel M4 n
def OKd (F : xO) (G : xM → xO) (n : Nat) : Prop := ∃ k M2 z M4, F = some (.inl k, M2) ∧ G M2 = some (.inl z, M4) ∧ M4 400 7 = k ∧ (k = 0 → M4 407 0 = z) ∧ Rel M4 n
def ags (sx : Nat → Int32) (x5 : Int) (j : Int) : Int := (sx (x5 + j).toNat).toInt
def agb (sx : Nat → Int32) (x5 : Int) (j : Int) : Int := if (sx (x5 + j).toNat).toInt = 0 then 0 else 1
theorem ags_r (sx : Nat → Int32) (x5 j : Int) : R32 (ags sx x5 j) := xsx_r _
theorem agb_b (sx : Nat → Int32) (x5 j : Int) : B01 (agb sx x5 j) := by unfold agb; split; exact Or.inl rfl; exact Or.inr rfl
theorem thrown_e (M : xM) : fX12_thrown 400 M = some (.inl (M 400 7), M) := rfl
theorem go_open {sl : Nat} {sx : Nat → Int32} {rc : Int → xM → xO} {x5 : Int} {M : xM} {n : Nat} (h0 : 0 ≤ x5) (h1 : x5 + 10 ≤ (sl : Int)) (h2 : (sl : Int) ≤ 5120) (H : OKc (fL_open 0 (ags sx x5 1) (agb sx x5 2) (ags sx x5 3) (ags sx x5 4) (ags sx x5 5) 406 M) (fX12_open 400 (ags sx x5 1) (agb sx x5 2) (ags sx x5 3) (ags sx x5 4) (ags sx x5 5)) (n + 1)) : ∃ M', fL_law_240 sl sx rc 0 400 406 407 x5 M = rc (x5 + 10) M' ∧ Rel M' (n + 1) := by
  obtain ⟨k, M2, z, M4, hF, hG, hk, hz, hr⟩ := H
  refine ⟨M4, ?_, hr⟩
  unfold ags at hF hG
  unfold fL_law_240 fL_law_261 fL_law_306 fL_law_357 fL_law_3031
  simp (disch := omega) only [xix_t, w32_i]
  by_cases hb : (sx (x5 + 2).toNat).toInt = 0
  · have eb : agb sx x5 2 = 0 := if_pos hb
    rw [eb] at hF hG
    simp only [if_pos hb]
    rw [hF, xbc_l, hG, xbc_l, thrown_e, xbc_l, hk, if_pos rfl]
    by_cases q : k = 0
    · rw [if_pos q, if_pos (hz q)]
    · rw [if_neg q]
  · have eb : agb sx x5 2 = 1 := if_neg hb
    rw [eb] at hF hG
    simp only [if_neg hb]
    rw [hF, xbc_l, hG, xbc_l, thrown_e, xbc_l, hk, if_pos rfl]
    by_cases q : k = 0
    · rw [if_pos q, if_pos (hz q)]
    · rw [if_neg q]
theorem go_lend {sl : Nat} {sx : Nat → Int32} {rc : Int → xM → xO} {x5 : Int} {M : xM} {n : Nat} (h0 : 0 ≤ x5) (h1 : x5 + 10 ≤ (sl : Int)) (h2 : (sl : Int) ≤ 5120) (H : OKb (fL_lend 0 (ags sx x5 1) 406 M) (fX12_lend 400 (ags sx x5 1)) (n + 1)) : ∃ M', fL_law_360 sl sx rc 0 400 406 407 x5 M = rc (x5 + 10) M' ∧ Rel M' (n + 1) := by
  obtain ⟨k, M2, z, M4, hF, hG, hk, hz, hr⟩ := H
  refine ⟨M4, ?_, hr⟩
  unfold ags at hF hG
  unfold fL_law_360 fL_law_414 fL_law_420 fL_law_3031
  simp (disch := omega) only [xix_t, w32_i]
  rw [hF, xbc_l, hG, xbc_l, thrown_e, xbc_l, hk, if_pos rfl]
  by_cases q : k = 0
  · obtain ⟨q1, q2⟩ := hz q
    rw [if_pos q, q1]
    rcases q2 with q2 | q2
    · rw [q2, if_pos rfl, if_pos rfl]
    · rw [q2, if_neg (by decide), if_pos rfl]
  · rw [if_neg q]
theorem go_relieve {sl : Nat} {sx : Nat → Int32} {rc : Int → xM → xO} {x5 : Int} {M : xM} {n : Nat} (h0 : 0 ≤ x5) (h1 : x5 + 10 ≤ (sl : Int)) (h2 : (sl : Int) ≤ 5120) (H : OKb (fL_relieve 0 (ags sx x5 1) 406 M) (fX12_relieve 400 (ags sx x5 1)) (n + 1)) : ∃ M', fL_law_423 sl sx rc 0 400 406 407 x5 M = rc (x5 + 10) M' ∧ Rel M' (n + 1) := by
  obtain ⟨k, M2, z, M4, hF, hG, hk, hz, hr⟩ := H
  refine ⟨M4, ?_, hr⟩
  unfold ags at hF hG
  unfold fL_law_423 fL_law_477 fL_law_483 fL_law_3031
  simp (disch := omega) only [xix_t, w32_i]
  rw [hF, xbc_l, hG, xbc_l, thrown_e, xbc_l, hk, if_pos rfl]
  by_cases q : k = 0
  · obtain ⟨q1, q2⟩ := hz q
    rw [if_pos q, q1]
    rcases q2 with q2 | q2
    · rw [q2, if_pos rfl, if_pos rfl]
    · rw [q2, if_neg (by decide), if_pos rfl]
  · rw [if_neg q]
theorem go_treaty {sl : Nat} {sx : Nat → Int32} {rc : Int → xM → xO} {x5 : Int} {M : xM} {n : Nat} (h0 : 0 ≤ x5) (h1 : x5 + 10 ≤ (sl : Int)) (h2 : (sl : Int) ≤ 5120) (H : OKc (fL_treaty 0 (ags sx x5 1) (ags sx x5 2) (ags sx x5 3) 406 M) (fX12_treaty 400 (ags sx x5 1) (ags sx x5 2) (ags sx x5 3)) (n + 1)) : ∃ M', fL_law_486 sl sx rc 0 400 406 407 x5 M = rc (x5 + 10) M' ∧ Rel M' (n + 1) := by
  obtain ⟨k, M2, z, M4, hF, hG, hk, hz, hr⟩ := H
  refine ⟨M4, ?_, hr⟩
  unfold ags at hF hG
  unfold fL_law_486 fL_law_563 fL_law_3031
  simp (disch := omega) only [xix_t, w32_i]
  rw [hF, xbc_l, hG, xbc_l, thrown_e, xbc_l, hk, if_pos rfl]
  by_cases q : k = 0
  · rw [if_pos q, if_pos (hz q)]
  · rw [if_neg q]
theorem go_issue {sl : Nat} {sx : Nat → Int32} {rc : Int → xM → xO} {x5 : Int} {M : xM} {n : Nat} (h0 : 0 ≤ x5) (h1 : x5 + 10 ≤ (sl : Int)) (h2 : (sl : Int) ≤ 5120) (H : OKc (fL_issue 0 (ags sx x5 1) (ags sx x5 2) (ags sx x5 3) (ags sx x5 4) (ags sx x5 5) 406 M) (fX12_issue 400 (ags sx x5 1) (ags sx x5 2) (ags sx x5 3) (ags sx x5 4) (ags sx x5 5)) (n + 1)) : ∃ M', fL_law_566 sl sx rc 0 400 406 407 x5 M = rc (x5 + 10) M' ∧ Rel M' (n + 1) := by
  obtain ⟨k, M2, z, M4, hF, hG, hk, hz, hr⟩ := H
  refine ⟨M4, ?_, hr⟩
  unfold ags at hF hG
  unfold fL_law_566 fL_law_667 fL_law_3031
  simp (disch := omega) only [xix_t, w32_i]
  rw [hF, xbc_l, hG, xbc_l, thrown_e, xbc_l, hk, if_pos rfl]
  by_cases q : k = 0
  · rw [if_pos q, if_pos (hz q)]
  · rw [if_neg q]
theorem go_setPrice {sl : Nat} {sx : Nat → Int32} {rc : Int → xM → xO} {x5 : Int} {M : xM} {n : Nat} (h0 : 0 ≤ x5) (h1 : x5 + 10 ≤ (sl : Int)) (h2 : (sl : Int) ≤ 5120) (H : OKc (fL_setPrice 0 (ags sx x5 1) (ags sx x5 2) 406 M) (fX12_setPrice 400 (ags sx x5 1) (ags sx x5 2)) (n + 1)) : ∃ M', fL_law_670 sl sx rc 0 400 406 407 x5 M = rc (x5 + 10) M' ∧ Rel M' (n + 1) := by
  obtain ⟨k, M2, z, M4, hF, hG, hk, hz, hr⟩ := H
  refine ⟨M4, ?_, hr⟩
  unfold ags at hF hG
  unfold fL_law_670 fL_law_735 fL_law_3031
  simp (disch := omega) only [xix_t, w32_i]
  rw [hF, xbc_l, hG, xbc_l, thrown_e, xbc_l, hk, if_pos rfl]
  by_cases q : k = 0
  · rw [if_pos q, if_pos (hz q)]
  · rw [if_neg q]
theorem go_block {sl : Nat} {sx : Nat → Int32} {rc : Int → xM → xO} {x5 : Int} {M : xM} {n : Nat} (h0 : 0 ≤ x5) (h1 : x5 + 10 ≤ (sl : Int)) (h2 : (sl : Int) ≤ 5120) (H : OKc (fL_block 0 (ags sx x5 1) (ags sx x5 2) (ags sx x5 3) 406 M) (fX12_block 400 (ags sx x5 1) (ags sx x5 2) (ags sx x5 3)) (n + 1)) : ∃ M', fL_law_738 sl sx rc 0 400 406 407 x5 M = rc (x5 + 10) M' ∧ Rel M' (n + 1) := by
  obtain ⟨k, M2, z, M4, hF, hG, hk, hz, hr⟩ := H
  refine ⟨M4, ?_, hr⟩
  unfold ags at hF hG
  unfold fL_law_738 fL_law_814 fL_law_3031
  simp (disch := omega) only [xix_t, w32_i]
  rw [hF, xbc_l, hG, xbc_l, thrown_e, xbc_l, hk, if_pos rfl]
  by_cases q : k = 0
  · rw [if_pos q, if_pos (hz q)]
  · rw [if_neg q]
theorem go_bring {sl : Nat} {sx : Nat → Int32} {rc : Int → xM → xO} {x5 : Int} {M : xM} {n : Nat} (h0 : 0 ≤ x5) (h1 : x5 + 10 ≤ (sl : Int)) (h2 : (sl : Int) ≤ 5120) (H : OKc (fL_bring 0 (ags sx x5 1) (ags sx x5 2) 406 M) (fX12_bring 400 (ags sx x5 1) (ags sx x5 2)) (n + 1)) : ∃ M', fL_law_817 sl sx rc 0 400 406 407 x5 M = rc (x5 + 10) M' ∧ Rel M' (n + 1) := by
  obtain ⟨k, M2, z, M4, hF, hG, hk, hz, hr⟩ := H
  refine ⟨M4, ?_, hr⟩
  unfold ags at hF hG
  unfold fL_law_817 fL_law_881 fL_law_3031
  simp (disch := omega) only [xix_t, w32_i]
  rw [hF, xbc_l, hG, xbc_l, thrown_e, xbc_l, hk, if_pos rfl]
  by_cases q : k = 0
  · rw [if_pos q, if_pos (hz q)]
  · rw [if_neg q]
theorem go_instruct {sl : Nat} {sx : Nat → Int32} {rc : Int → xM → xO} {x5 : Int} {M : xM} {n : Nat} (h0 : 0 ≤ x5) (h1 : x5 + 10 ≤ (sl : Int)) (h2 : (sl : Int) ≤ 5120) (H : OKc (fL_instruct 0 (ags sx x5 1) (ags sx x5 2) (agb sx x5 3) (ags sx x5 4) (ags sx x5 5) (ags sx x5 6) (ags sx x5 7) (ags sx x5 8) (ags sx x5 9) 406 M) (fX12_instruct 400 (ags sx x5 1) (ags sx x5 2) (agb sx x5 3) (ags sx x5 4) (ags sx x5 5) (ags sx x5 6) (ags sx x5 7) (ags sx x5 8) (ags sx x5 9)) (n + 1)) : ∃ M', fL_law_884 sl sx rc 0 400 406 407 x5 M = rc (x5 + 10) M' ∧ Rel M' (n + 1) := by
  obtain ⟨k, M2, z, M4, hF, hG, hk, hz, hr⟩ := H
  refine ⟨M4, ?_, hr⟩
  unfold ags at hF hG
  unfold fL_law_884 fL_law_911 fL_law_984 fL_law_1057 fL_law_3031
  simp (disch := omega) only [xix_t, w32_i]
  by_cases hb : (sx (x5 + 3).toNat).toInt = 0
  · have eb : agb sx x5 3 = 0 := if_pos hb
    rw [eb] at hF hG
    simp only [if_pos hb]
    rw [hF, xbc_l, hG, xbc_l, thrown_e, xbc_l, hk, if_pos rfl]
    by_cases q : k = 0
    · rw [if_pos q, if_pos (hz q)]
    · rw [if_neg q]
  · have eb : agb sx x5 3 = 1 := if_neg hb
    rw [eb] at hF hG
    simp only [if_neg hb]
    rw [hF, xbc_l, hG, xbc_l, thrown_e, xbc_l, hk, if_pos rfl]
    by_cases q : k = 0
    · rw [if_pos q, if_pos (hz q)]
    · rw [if_neg q]
theorem go_amend {sl : Nat} {sx : Nat → Int32} {rc : Int → xM → xO} {x5 : Int} {M : xM} {n : Nat} (h0 : 0 ≤ x5) (h1 : x5 + 10 ≤ (sl : Int)) (h2 : (sl : Int) ≤ 5120) (H : OKc (fL_amend 0 (ags sx x5 1) (ags sx x5 2) 406 M) (fX12_amend 400 (ags sx x5 1) (ags sx x5 2)) (n + 1)) : ∃ M', fL_law_1060 sl sx rc 0 400 406 407 x5 M = rc (x5 + 10) M' ∧ Rel M' (n + 1) := by
  obtain ⟨k, M2, z, M4, hF, hG, hk, hz, hr⟩ := H
  refine ⟨M4, ?_, hr⟩
  unfold ags at hF hG
  unfold fL_law_1060 fL_law_1125 fL_law_3031
  simp (disch := omega) only [xix_t, w32_i]
  rw [hF, xbc_l, hG, xbc_l, thrown_e, xbc_l, hk, if_pos rfl]
  by_cases q : k = 0
  · rw [if_pos q, if_pos (hz q)]
  · rw [if_neg q]
theorem go_cancel {sl : Nat} {sx : Nat → Int32} {rc : Int → xM → xO} {x5 : Int} {M : xM} {n : Nat} (h0 : 0 ≤ x5) (h1 : x5 + 10 ≤ (sl : Int)) (h2 : (sl : Int) ≤ 5120) (H : OKb (fL_cancel 0 (ags sx x5 1) 406 M) (fX12_cancel 400 (ags sx x5 1)) (n + 1)) : ∃ M', fL_law_1128 sl sx rc 0 400 406 407 x5 M = rc (x5 + 10) M' ∧ Rel M' (n + 1) := by
  obtain ⟨k, M2, z, M4, hF, hG, hk, hz, hr⟩ := H
  refine ⟨M4, ?_, hr⟩
  unfold ags at hF hG
  unfold fL_law_1128 fL_law_1182 fL_law_1188 fL_law_3031
  simp (disch := omega) only [xix_t, w32_i]
  rw [hF, xbc_l, hG, xbc_l, thrown_e, xbc_l, hk, if_pos rfl]
  by_cases q : k = 0
  · obtain ⟨q1, q2⟩ := hz q
    rw [if_pos q, q1]
    rcases q2 with q2 | q2
    · rw [q2, if_pos rfl, if_pos rfl]
    · rw [q2, if_neg (by decide), if_pos rfl]
  · rw [if_neg q]
theorem go_hold {sl : Nat} {sx : Nat → Int32} {rc : Int → xM → xO} {x5 : Int} {M : xM} {n : Nat} (h0 : 0 ≤ x5) (h1 : x5 + 10 ≤ (sl : Int)) (h2 : (sl : Int) ≤ 5120) (H : OKb (fL_hold 0 (ags sx x5 1) 406 M) (fX12_hold 400 (ags sx x5 1)) (n + 1)) : ∃ M', fL_law_1191 sl sx rc 0 400 406 407 x5 M = rc (x5 + 10) M' ∧ Rel M' (n + 1) := by
  obtain ⟨k, M2, z, M4, hF, hG, hk, hz, hr⟩ := H
  refine ⟨M4, ?_, hr⟩
  unfold ags at hF hG
  unfold fL_law_1191 fL_law_1245 fL_law_1251 fL_law_3031
  simp (disch := omega) only [xix_t, w32_i]
  rw [hF, xbc_l, hG, xbc_l, thrown_e, xbc_l, hk, if_pos rfl]
  by_cases q : k = 0
  · obtain ⟨q1, q2⟩ := hz q
    rw [if_pos q, q1]
    rcases q2 with q2 | q2
    · rw [q2, if_pos rfl, if_pos rfl]
    · rw [q2, if_neg (by decide), if_pos rfl]
  · rw [if_neg q]
theorem go_link {sl : Nat} {sx : Nat → Int32} {rc : Int → xM → xO} {x5 : Int} {M : xM} {n : Nat} (h0 : 0 ≤ x5) (h1 : x5 + 10 ≤ (sl : Int)) (h2 : (sl : Int) ≤ 5120) (H : OKc (fL_link 0 (ags sx x5 1) (ags sx x5 2) (agb sx x5 3) 406 M) (fX12_link 400 (ags sx x5 1) (ags sx x5 2) (agb sx x5 3)) (n + 1)) : ∃ M', fL_law_1254 sl sx rc 0 400 406 407 x5 M = rc (x5 + 10) M' ∧ Rel M' (n + 1) := by
  obtain ⟨k, M2, z, M4, hF, hG, hk, hz, hr⟩ := H
  refine ⟨M4, ?_, hr⟩
  unfold ags at hF hG
  unfold fL_law_1254 fL_law_1281 fL_law_1314 fL_law_1347 fL_law_3031
  simp (disch := omega) only [xix_t, w32_i]
  by_cases hb : (sx (x5 + 3).toNat).toInt = 0
  · have eb : agb sx x5 3 = 0 := if_pos hb
    rw [eb] at hF hG
    simp only [if_pos hb]
    rw [hF, xbc_l, hG, xbc_l, thrown_e, xbc_l, hk, if_pos rfl]
    by_cases q : k = 0
    · rw [if_pos q, if_pos (hz q)]
    · rw [if_neg q]
  · have eb : agb sx x5 3 = 1 := if_neg hb
    rw [eb] at hF hG
    simp only [if_neg hb]
    rw [hF, xbc_l, hG, xbc_l, thrown_e, xbc_l, hk, if_pos rfl]
    by_cases q : k = 0
    · rw [if_pos q, if_pos (hz q)]
    · rw [if_neg q]
theorem go_cycle {sl : Nat} {sx : Nat → Int32} {rc : Int → xM → xO} {x5 : Int} {M : xM} {n : Nat} (h0 : 0 ≤ x5) (h1 : x5 + 10 ≤ (sl : Int)) (h2 : (sl : Int) ≤ 5120) (H : OK0 (fX11_cycle 0 M) (fX12_cycle 400) (n + 1)) : ∃ M', fL_law_1350 sl sx rc 0 400 406 407 x5 M = rc (x5 + 10) M' ∧ Rel M' (n + 1) := by
  obtain ⟨z, M2, M4, hF, hG, hr⟩ := H
  refine ⟨M4, ?_, hr⟩
  unfold fL_law_1350 fL_law_3031
  rw [hF, xbc_l, hG, xbc_l, if_pos rfl, w32_i (by omega) (by omega)]
theorem go_best {sl : Nat} {sx : Nat → Int32} {rc : Int → xM → xO} {x5 : Int} {M : xM} {n : Nat} (h0 : 0 ≤ x5) (h1 : x5 + 10 ≤ (sl : Int)) (h2 : (sl : Int) ≤ 5120) (H : OK0 (fX11_best 0 M) (fX12_best 400) (n + 1)) : ∃ M', fL_law_1363 sl sx rc 0 400 406 407 x5 M = rc (x5 + 10) M' ∧ Rel M' (n + 1) := by
  obtain ⟨z, M2, M4, hF, hG, hr⟩ := H
  refine ⟨M4, ?_, hr⟩
  unfold fL_law_1363 fL_law_3031
  rw [hF, xbc_l, hG, xbc_l, if_pos rfl, w32_i (by omega) (by omega)]
theorem go_bestByAll {sl : Nat} {sx : Nat → Int32} {rc : Int → xM → xO} {x5 : Int} {M : xM} {n : Nat} (h0 : 0 ≤ x5) (h1 : x5 + 10 ≤ (sl : Int)) (h2 : (sl : Int) ≤ 5120) (H : OK0 (fX11_bestByAll 0 M) (fX12_bestByAll 400) (n + 1)) : ∃ M', fL_law_1377 sl sx rc 0 400 406 407 x5 M = rc (x5 + 10) M' ∧ Rel M' (n + 1) := by
  obtain ⟨z, M2, M4, hF, hG, hr⟩ := H
  refine ⟨M4, ?_, hr⟩
  unfold fL_law_1377 fL_law_3031
  rw [hF, xbc_l, hG, xbc_l, if_pos rfl, w32_i (by omega) (by omega)]
theorem go_endDay {sl : Nat} {sx : Nat → Int32} {rc : Int → xM → xO} {x5 : Int} {M : xM} {n : Nat} (h0 : 0 ≤ x5) (h1 : x5 + 10 ≤ (sl : Int)) (h2 : (sl : Int) ≤ 5120) (H : OKc (fL_endDay 0 406 M) (fX12_endDay 400 ) (n + 1)) : ∃ M', fL_law_1391 sl sx rc 0 400 406 407 x5 M = rc (x5 + 10) M' ∧ Rel M' (n + 1) := by
  obtain ⟨k, M2, z, M4, hF, hG, hk, hz, hr⟩ := H
  refine ⟨M4, ?_, hr⟩
  skip
  unfold fL_law_1391 fL_law_1432 fL_law_3031
  simp (disch := omega) only [xix_t, w32_i]
  rw [hF, xbc_l, hG, xbc_l, thrown_e, xbc_l, hk, if_pos rfl]
  by_cases q : k = 0
  · rw [if_pos q, if_pos (hz q)]
  · rw [if_neg q]
theorem go_today {sl : Nat} {sx : Nat → Int32} {rc : Int → xM → xO} {x5 : Int} {M : xM} {n : Nat} (h0 : 0 ≤ x5) (h1 : x5 + 10 ≤ (sl : Int)) (h2 : (sl : Int) ≤ 5120) (H : OK0 (fX11_today 0 M) (fX12_today 400) (n + 1)) : ∃ M', fL_law_1435 sl sx rc 0 400 406 407 x5 M = rc (x5 + 10) M' ∧ Rel M' (n + 1) := by
  obtain ⟨z, M2, M4, hF, hG, hr⟩ := H
  refine ⟨M4, ?_, hr⟩
  unfold fL_law_1435 fL_law_3031
  rw [hF, xbc_l, hG, xbc_l, if_pos rfl, w32_i (by omega) (by omega)]
theorem go_recall {sl : Nat} {sx : Nat → Int32} {rc : Int → xM → xO} {x5 : Int} {M : xM} {n : Nat} (h0 : 0 ≤ x5) (h1 : x5 + 10 ≤ (sl : Int)) (h2 : (sl : Int) ≤ 5120) (H : OKc (fL_recall 0 (ags sx x5 1) 406 M) (fX12_recall 400 (ags sx x5 1)) (n + 1)) : ∃ M', fL_law_1448 sl sx rc 0 400 406 407 x5 M = rc (x5 + 10) M' ∧ Rel M' (n + 1) := by
  obtain ⟨k, M2, z, M4, hF, hG, hk, hz, hr⟩ := H
  refine ⟨M4, ?_, hr⟩
  unfold ags at hF hG
  unfold fL_law_1448 fL_law_1500 fL_law_3031
  simp (disch := omega) only [xix_t, w32_i]
  rw [hF, xbc_l, hG, xbc_l, thrown_e, xbc_l, hk, if_pos rfl]
  by_cases q : k = 0
  · rw [if_pos q, if_pos (hz q)]
  · rw [if_neg q]
theorem go_keep {sl : Nat} {sx : Nat → Int32} {rc : Int → xM → xO} {x5 : Int} {M : xM} {n : Nat} (h0 : 0 ≤ x5) (h1 : x5 + 10 ≤ (sl : Int)) (h2 : (sl : Int) ≤ 5120) (H : OK0 (fX11_keep 0 M) (fX12_keep 400) (n + 1)) : ∃ M', fL_law_1503 sl sx rc 0 400 406 407 x5 M = rc (x5 + 10) M' ∧ Rel M' (n + 1) := by
  obtain ⟨z, M2, M4, hF, hG, hr⟩ := H
  refine ⟨M4, ?_, hr⟩
  unfold fL_law_1503 fL_law_3031
  rw [hF, xbc_l, hG, xbc_l, if_pos rfl, w32_i (by omega) (by omega)]
theorem go_goBack {sl : Nat} {sx : Nat → Int32} {rc : Int → xM → xO} {x5 : Int} {M : xM} {n : Nat} (h0 : 0 ≤ x5) (h1 : x5 + 10 ≤ (sl : Int)) (h2 : (sl : Int) ≤ 5120) (H : OKc (fL_goBack 0 406 M) (fX12_goBack 400 ) (n + 1)) : ∃ M', fL_law_1516 sl sx rc 0 400 406 407 x5 M = rc (x5 + 10) M' ∧ Rel M' (n + 1) := by
  obtain ⟨k, M2, z, M4, hF, hG, hk, hz, hr⟩ := H
  refine ⟨M4, ?_, hr⟩
  skip
  unfold fL_law_1516 fL_law_1557 fL_law_3031
  simp (disch := omega) only [xix_t, w32_i]
  rw [hF, xbc_l, hG, xbc_l, thrown_e, xbc_l, hk, if_pos rfl]
  by_cases q : k = 0
  · rw [if_pos q, if_pos (hz q)]
  · rw [if_neg q]
theorem go_announce {sl : Nat} {sx : Nat → Int32} {rc : Int → xM → xO} {x5 : Int} {M : xM} {n : Nat} (h0 : 0 ≤ x5) (h1 : x5 + 10 ≤ (sl : Int)) (h2 : (sl : Int) ≤ 5120) (H : OKc (fL_announce 0 (ags sx x5 1) (ags sx x5 2) (ags sx x5 3) (ags sx x5 4) (ags sx x5 5) (ags sx x5 6) (ags sx x5 7) 406 M) (fX12_announce 400 (ags sx x5 1) (ags sx x5 2) (ags sx x5 3) (ags sx x5 4) (ags sx x5 5) (ags sx x5 6) (ags sx x5 7)) (n + 1)) : ∃ M', fL_law_1560 sl sx rc 0 400 406 407 x5 M = rc (x5 + 10) M' ∧ Rel M' (n + 1) := by
  obtain ⟨k, M2, z, M4, hF, hG, hk, hz, hr⟩ := H
  refine ⟨M4, ?_, hr⟩
  unfold ags at hF hG
  unfold fL_law_1560 fL_law_1689 fL_law_3031
  simp (disch := omega) only [xix_t, w32_i]
  rw [hF, xbc_l, hG, xbc_l, thrown_e, xbc_l, hk, if_pos rfl]
  by_cases q : k = 0
  · rw [if_pos q, if_pos (hz q)]
  · rw [if_neg q]
theorem go_elect {sl : Nat} {sx : Nat → Int32} {rc : Int → xM → xO} {x5 : Int} {M : xM} {n : Nat} (h0 : 0 ≤ x5) (h1 : x5 + 10 ≤ (sl : Int)) (h2 : (sl : Int) ≤ 5120) (H : OKc (fL_elect 0 (ags sx x5 1) (ags sx x5 2) (ags sx x5 3) 406 M) (fX12_elect 400 (ags sx x5 1) (ags sx x5 2) (ags sx x5 3)) (n + 1)) : ∃ M', fL_law_1692 sl sx rc 0 400 406 407 x5 M = rc (x5 + 10) M' ∧ Rel M' (n + 1) := by
  obtain ⟨k, M2, z, M4, hF, hG, hk, hz, hr⟩ := H
  refine ⟨M4, ?_, hr⟩
  unfold ags at hF hG
  unfold fL_law_1692 fL_law_1768 fL_law_3031
  simp (disch := omega) only [xix_t, w32_i]
  rw [hF, xbc_l, hG, xbc_l, thrown_e, xbc_l, hk, if_pos rfl]
  by_cases q : k = 0
  · rw [if_pos q, if_pos (hz q)]
  · rw [if_neg q]
theorem go_entitled {sl : Nat} {sx : Nat → Int32} {rc : Int → xM → xO} {x5 : Int} {M : xM} {n : Nat} (h0 : 0 ≤ x5) (h1 : x5 + 10 ≤ (sl : Int)) (h2 : (sl : Int) ≤ 5120) (H : OKc (fL_entitled 0 (ags sx x5 1) (ags sx x5 2) 406 M) (fX12_entitled 400 (ags sx x5 1) (ags sx x5 2)) (n + 1)) : ∃ M', fL_law_1771 sl sx rc 0 400 406 407 x5 M = rc (x5 + 10) M' ∧ Rel M' (n + 1) := by
  obtain ⟨k, M2, z, M4, hF, hG, hk, hz, hr⟩ := H
  refine ⟨M4, ?_, hr⟩
  unfold ags at hF hG
  unfold fL_law_1771 fL_law_1835 fL_law_3031
  simp (disch := omega) only [xix_t, w32_i]
  rw [hF, xbc_l, hG, xbc_l, thrown_e, xbc_l, hk, if_pos rfl]
  by_cases q : k = 0
  · rw [if_pos q, if_pos (hz q)]
  · rw [if_neg q]
theorem go_entitledAnew {sl : Nat} {sx : Nat → Int32} {rc : Int → xM → xO} {x5 : Int} {M : xM} {n : Nat} (h0 : 0 ≤ x5) (h1 : x5 + 10 ≤ (sl : Int)) (h2 : (sl : Int) ≤ 5120) (H : OKc (fL_entitledAnew 0 (ags sx x5 1) (ags sx x5 2) 406 M) (fX12_entitledAnew 400 (ags sx x5 1) (ags sx x5 2)) (n + 1)) : ∃ M', fL_law_1838 sl sx rc 0 400 406 407 x5 M = rc (x5 + 10) M' ∧ Rel M' (n + 1) := by
  obtain ⟨k, M2, z, M4, hF, hG, hk, hz, hr⟩ := H
  refine ⟨M4, ?_, hr⟩
  unfold ags at hF hG
  unfold fL_law_1838 fL_law_1902 fL_law_3031
  simp (disch := omega) only [xix_t, w32_i]
  rw [hF, xbc_l, hG, xbc_l, thrown_e, xbc_l, hk, if_pos rfl]
  by_cases q : k = 0
  · rw [if_pos q, if_pos (hz q)]
  · rw [if_neg q]
theorem go_isPaid {sl : Nat} {sx : Nat → Int32} {rc : Int → xM → xO} {x5 : Int} {M : xM} {n : Nat} (h0 : 0 ≤ x5) (h1 : x5 + 10 ≤ (sl : Int)) (h2 : (sl : Int) ≤ 5120) (H : OKb (fL_isPaid 0 (ags sx x5 1) 406 M) (fX12_isPaid 400 (ags sx x5 1)) (n + 1)) : ∃ M', fL_law_1905 sl sx rc 0 400 406 407 x5 M = rc (x5 + 10) M' ∧ Rel M' (n + 1) := by
  obtain ⟨k, M2, z, M4, hF, hG, hk, hz, hr⟩ := H
  refine ⟨M4, ?_, hr⟩
  unfold ags at hF hG
  unfold fL_law_1905 fL_law_1959 fL_law_1965 fL_law_3031
  simp (disch := omega) only [xix_t, w32_i]
  rw [hF, xbc_l, hG, xbc_l, thrown_e, xbc_l, hk, if_pos rfl]
  by_cases q : k = 0
  · obtain ⟨q1, q2⟩ := hz q
    rw [if_pos q, q1]
    rcases q2 with q2 | q2
    · rw [q2, if_pos rfl, if_pos rfl]
    · rw [q2, if_neg (by decide), if_pos rfl]
  · rw [if_neg q]
theorem go_units {sl : Nat} {sx : Nat → Int32} {rc : Int → xM → xO} {x5 : Int} {M : xM} {n : Nat} (h0 : 0 ≤ x5) (h1 : x5 + 10 ≤ (sl : Int)) (h2 : (sl : Int) ≤ 5120) (H : OKc (fL_units 0 (ags sx x5 1) (ags sx x5 2) 406 M) (fX12_units 400 (ags sx x5 1) (ags sx x5 2)) (n + 1)) : ∃ M', fL_law_1968 sl sx rc 0 400 406 407 x5 M = rc (x5 + 10) M' ∧ Rel M' (n + 1) := by
  obtain ⟨k, M2, z, M4, hF, hG, hk, hz, hr⟩ := H
  refine ⟨M4, ?_, hr⟩
  unfold ags at hF hG
  unfold fL_law_1968 fL_law_2032 fL_law_3031
  simp (disch := omega) only [xix_t, w32_i]
  rw [hF, xbc_l, hG, xbc_l, thrown_e, xbc_l, hk, if_pos rfl]
  by_cases q : k = 0
  · rw [if_pos q, if_pos (hz q)]
  · rw [if_neg q]
theorem go_free {sl : Nat} {sx : Nat → Int32} {rc : Int → xM → xO} {x5 : Int} {M : xM} {n : Nat} (h0 : 0 ≤ x5) (h1 : x5 + 10 ≤ (sl : Int)) (h2 : (sl : Int) ≤ 5120) (H : OKc (fL_free 0 (ags sx x5 1) (ags sx x5 2) 406 M) (fX12_free 400 (ags sx x5 1) (ags sx x5 2)) (n + 1)) : ∃ M', fL_law_2035 sl sx rc 0 400 406 407 x5 M = rc (x5 + 10) M' ∧ Rel M' (n + 1) := by
  obtain ⟨k, M2, z, M4, hF, hG, hk, hz, hr⟩ := H
  refine ⟨M4, ?_, hr⟩
  unfold ags at hF hG
  unfold fL_law_2035 fL_law_2099 fL_law_3031
  simp (disch := omega) only [xix_t, w32_i]
  rw [hF, xbc_l, hG, xbc_l, thrown_e, xbc_l, hk, if_pos rfl]
  by_cases q : k = 0
  · rw [if_pos q, if_pos (hz q)]
  · rw [if_neg q]
theorem go_out {sl : Nat} {sx : Nat → Int32} {rc : Int → xM → xO} {x5 : Int} {M : xM} {n : Nat} (h0 : 0 ≤ x5) (h1 : x5 + 10 ≤ (sl : Int)) (h2 : (sl : Int) ≤ 5120) (H : OKc (fL_out 0 (ags sx x5 1) 406 M) (fX12_out 400 (ags sx x5 1)) (n + 1)) : ∃ M', fL_law_2102 sl sx rc 0 400 406 407 x5 M = rc (x5 + 10) M' ∧ Rel M' (n + 1) := by
  obtain ⟨k, M2, z, M4, hF, hG, hk, hz, hr⟩ := H
  refine ⟨M4, ?_, hr⟩
  unfold ags at hF hG
  unfold fL_law_2102 fL_law_2154 fL_law_3031
  simp (disch := omega) only [xix_t, w32_i]
  rw [hF, xbc_l, hG, xbc_l, thrown_e, xbc_l, hk, if_pos rfl]
  by_cases q : k = 0
  · rw [if_pos q, if_pos (hz q)]
  · rw [if_neg q]
theorem go_cash {sl : Nat} {sx : Nat → Int32} {rc : Int → xM → xO} {x5 : Int} {M : xM} {n : Nat} (h0 : 0 ≤ x5) (h1 : x5 + 10 ≤ (sl : Int)) (h2 : (sl : Int) ≤ 5120) (H : OKc (fL_cash 0 (ags sx x5 1) 406 M) (fX12_cash 400 (ags sx x5 1)) (n + 1)) : ∃ M', fL_law_2157 sl sx rc 0 400 406 407 x5 M = rc (x5 + 10) M' ∧ Rel M' (n + 1) := by
  obtain ⟨k, M2, z, M4, hF, hG, hk, hz, hr⟩ := H
  refine ⟨M4, ?_, hr⟩
  unfold ags at hF hG
  unfold fL_law_2157 fL_law_2209 fL_law_3031
  simp (disch := omega) only [xix_t, w32_i]
  rw [hF, xbc_l, hG, xbc_l, thrown_e, xbc_l, hk, if_pos rfl]
  by_cases q : k = 0
  · rw [if_pos q, if_pos (hz q)]
  · rw [if_neg q]
theorem go_pledged {sl : Nat} {sx : Nat → Int32} {rc : Int → xM → xO} {x5 : Int} {M : xM} {n : Nat} (h0 : 0 ≤ x5) (h1 : x5 + 10 ≤ (sl : Int)) (h2 : (sl : Int) ≤ 5120) (H : OKc (fL_pledged 0 (ags sx x5 1) 406 M) (fX12_pledged 400 (ags sx x5 1)) (n + 1)) : ∃ M', fL_law_2212 sl sx rc 0 400 406 407 x5 M = rc (x5 + 10) M' ∧ Rel M' (n + 1) := by
  obtain ⟨k, M2, z, M4, hF, hG, hk, hz, hr⟩ := H
  refine ⟨M4, ?_, hr⟩
  unfold ags at hF hG
  unfold fL_law_2212 fL_law_2264 fL_law_3031
  simp (disch := omega) only [xix_t, w32_i]
  rw [hF, xbc_l, hG, xbc_l, thrown_e, xbc_l, hk, if_pos rfl]
  by_cases q : k = 0
  · rw [if_pos q, if_pos (hz q)]
  · rw [if_neg q]
theorem go_limit {sl : Nat} {sx : Nat → Int32} {rc : Int → xM → xO} {x5 : Int} {M : xM} {n : Nat} (h0 : 0 ≤ x5) (h1 : x5 + 10 ≤ (sl : Int)) (h2 : (sl : Int) ≤ 5120) (H : OKc (fL_limit 0 (ags sx x5 1) 406 M) (fX12_limit 400 (ags sx x5 1)) (n + 1)) : ∃ M', fL_law_2267 sl sx rc 0 400 406 407 x5 M = rc (x5 + 10) M' ∧ Rel M' (n + 1) := by
  obtain ⟨k, M2, z, M4, hF, hG, hk, hz, hr⟩ := H
  refine ⟨M4, ?_, hr⟩
  unfold ags at hF hG
  unfold fL_law_2267 fL_law_2319 fL_law_3031
  simp (disch := omega) only [xix_t, w32_i]
  rw [hF, xbc_l, hG, xbc_l, thrown_e, xbc_l, hk, if_pos rfl]
  by_cases q : k = 0
  · rw [if_pos q, if_pos (hz q)]
  · rw [if_neg q]
theorem go_isSound {sl : Nat} {sx : Nat → Int32} {rc : Int → xM → xO} {x5 : Int} {M : xM} {n : Nat} (h0 : 0 ≤ x5) (h1 : x5 + 10 ≤ (sl : Int)) (h2 : (sl : Int) ≤ 5120) (H : OKb (fL_isSound 0 (ags sx x5 1) 406 M) (fX12_isSound 400 (ags sx x5 1)) (n + 1)) : ∃ M', fL_law_2322 sl sx rc 0 400 406 407 x5 M = rc (x5 + 10) M' ∧ Rel M' (n + 1) := by
  obtain ⟨k, M2, z, M4, hF, hG, hk, hz, hr⟩ := H
  refine ⟨M4, ?_, hr⟩
  unfold ags at hF hG
  unfold fL_law_2322 fL_law_2376 fL_law_2382 fL_law_3031
  simp (disch := omega) only [xix_t, w32_i]
  rw [hF, xbc_l, hG, xbc_l, thrown_e, xbc_l, hk, if_pos rfl]
  by_cases q : k = 0
  · obtain ⟨q1, q2⟩ := hz q
    rw [if_pos q, q1]
    rcases q2 with q2 | q2
    · rw [q2, if_pos rfl, if_pos rfl]
    · rw [q2, if_neg (by decide), if_pos rfl]
  · rw [if_neg q]
theorem go_used {sl : Nat} {sx : Nat → Int32} {rc : Int → xM → xO} {x5 : Int} {M : xM} {n : Nat} (h0 : 0 ≤ x5) (h1 : x5 + 10 ≤ (sl : Int)) (h2 : (sl : Int) ≤ 5120) (H : OKd (fL_used 0 (ags sx x5 1) 407 M) (fX12_used 400 (ags sx x5 1)) (n + 1)) : ∃ M', fL_law_2385 sl sx rc 0 400 406 407 x5 M = rc (x5 + 10) M' ∧ Rel M' (n + 1) := by
  obtain ⟨k, M2, z, M4, hF, hG, hk, hz, hr⟩ := H
  refine ⟨M4, ?_, hr⟩
  unfold ags at hF hG
  unfold fL_law_2385 fL_law_2459 fL_law_3031
  simp (disch := omega) only [xix_t, w32_i]
  rw [hF, xbc_l, hG, xbc_l, thrown_e, xbc_l, hk, if_pos rfl]
  by_cases q : k = 0
  · rw [if_pos q, hz q]
    by_cases q3 : xdcl (UInt64.ofNat z.toNat) (UInt64.ofNat z.toNat) = 0
    · rw [if_pos q3]
    · simp only [if_neg q3]
  · rw [if_neg q]
theorem go_ledger {sl : Nat} {sx : Nat → Int32} {rc : Int → xM → xO} {x5 : Int} {M : xM} {n : Nat} (h0 : 0 ≤ x5) (h1 : x5 + 10 ≤ (sl : Int)) (h2 : (sl : Int) ≤ 5120) (H : OKc (fL_ledger 0 (ags sx x5 1) 406 M) (fX12_ledger 400 (ags sx x5 1)) (n + 1)) : ∃ M', fL_law_2462 sl sx rc 0 400 406 407 x5 M = rc (x5 + 10) M' ∧ Rel M' (n + 1) := by
  obtain ⟨k, M2, z, M4, hF, hG, hk, hz, hr⟩ := H
  refine ⟨M4, ?_, hr⟩
  unfold ags at hF hG
  unfold fL_law_2462 fL_law_2514 fL_law_3031
  simp (disch := omega) only [xix_t, w32_i]
  rw [hF, xbc_l, hG, xbc_l, thrown_e, xbc_l, hk, if_pos rfl]
  by_cases q : k = 0
  · rw [if_pos q, if_pos (hz q)]
  · rw [if_neg q]
theorem go_messages {sl : Nat} {sx : Nat → Int32} {rc : Int → xM → xO} {x5 : Int} {M : xM} {n : Nat} (h0 : 0 ≤ x5) (h1 : x5 + 10 ≤ (sl : Int)) (h2 : (sl : Int) ≤ 5120) (H : OKc (fL_messages 0 (ags sx x5 1) 406 M) (fX12_messages 400 (ags sx x5 1)) (n + 1)) : ∃ M', fL_law_2517 sl sx rc 0 400 406 407 x5 M = rc (x5 + 10) M' ∧ Rel M' (n + 1) := by
  obtain ⟨k, M2, z, M4, hF, hG, hk, hz, hr⟩ := H
  refine ⟨M4, ?_, hr⟩
  unfold ags at hF hG
  unfold fL_law_2517 fL_law_2570 fL_law_3031
  simp (disch := omega) only [xix_t, w32_i]
  rw [hF, xbc_l, hG, xbc_l, thrown_e, xbc_l, hk, if_pos rfl]
  by_cases q : k = 0
  · rw [if_pos q, if_pos (hz q)]
  · rw [if_neg q]
theorem go_alleged {sl : Nat} {sx : Nat → Int32} {rc : Int → xM → xO} {x5 : Int} {M : xM} {n : Nat} (h0 : 0 ≤ x5) (h1 : x5 + 10 ≤ (sl : Int)) (h2 : (sl : Int) ≤ 5120) (H : OKc (fL_alleged 0 (ags sx x5 1) 406 M) (fX12_alleged 400 (ags sx x5 1)) (n + 1)) : ∃ M', fL_law_2573 sl sx rc 0 400 406 407 x5 M = rc (x5 + 10) M' ∧ Rel M' (n + 1) := by
  obtain ⟨k, M2, z, M4, hF, hG, hk, hz, hr⟩ := H
  refine ⟨M4, ?_, hr⟩
  unfold ags at hF hG
  unfold fL_law_2573 fL_law_2626 fL_law_3031
  simp (disch := omega) only [xix_t, w32_i]
  rw [hF, xbc_l, hG, xbc_l, thrown_e, xbc_l, hk, if_pos rfl]
  by_cases q : k = 0
  · rw [if_pos q, if_pos (hz q)]
  · rw [if_neg q]
theorem go_status {sl : Nat} {sx : Nat → Int32} {rc : Int → xM → xO} {x5 : Int} {M : xM} {n : Nat} (h0 : 0 ≤ x5) (h1 : x5 + 10 ≤ (sl : Int)) (h2 : (sl : Int) ≤ 5120) (H : OKc (fL_status 0 (ags sx x5 1) 406 M) (fX12_status 400 (ags sx x5 1)) (n + 1)) : ∃ M', fL_law_2629 sl sx rc 0 400 406 407 x5 M = rc (x5 + 10) M' ∧ Rel M' (n + 1) := by
  obtain ⟨k, M2, z, M4, hF, hG, hk, hz, hr⟩ := H
  refine ⟨M4, ?_, hr⟩
  unfold ags at hF hG
  unfold fL_law_2629 fL_law_2682 fL_law_3031
  simp (disch := omega) only [xix_t, w32_i]
  rw [hF, xbc_l, hG, xbc_l, thrown_e, xbc_l, hk, if_pos rfl]
  by_cases q : k = 0
  · rw [if_pos q, if_pos (hz q)]
  · rw [if_neg q]
theorem go_tradeOf {sl : Nat} {sx : Nat → Int32} {rc : Int → xM → xO} {x5 : Int} {M : xM} {n : Nat} (h0 : 0 ≤ x5) (h1 : x5 + 10 ≤ (sl : Int)) (h2 : (sl : Int) ≤ 5120) (H : OKc (fL_tradeOf 0 (ags sx x5 1) 406 M) (fX12_tradeOf 400 (ags sx x5 1)) (n + 1)) : ∃ M', fL_law_2685 sl sx rc 0 400 406 407 x5 M = rc (x5 + 10) M' ∧ Rel M' (n + 1) := by
  obtain ⟨k, M2, z, M4, hF, hG, hk, hz, hr⟩ := H
  refine ⟨M4, ?_, hr⟩
  unfold ags at hF hG
  unfold fL_law_2685 fL_law_2738 fL_law_3031
  simp (disch := omega) only [xix_t, w32_i]
  rw [hF, xbc_l, hG, xbc_l, thrown_e, xbc_l, hk, if_pos rfl]
  by_cases q : k = 0
  · rw [if_pos q, if_pos (hz q)]
  · rw [if_neg q]
theorem go_tradeUnits {sl : Nat} {sx : Nat → Int32} {rc : Int → xM → xO} {x5 : Int} {M : xM} {n : Nat} (h0 : 0 ≤ x5) (h1 : x5 + 10 ≤ (sl : Int)) (h2 : (sl : Int) ≤ 5120) (H : OKc (fL_tradeUnits 0 (ags sx x5 1) 406 M) (fX12_tradeUnits 400 (ags sx x5 1)) (n + 1)) : ∃ M', fL_law_2741 sl sx rc 0 400 406 407 x5 M = rc (x5 + 10) M' ∧ Rel M' (n + 1) := by
  obtain ⟨k, M2, z, M4, hF, hG, hk, hz, hr⟩ := H
  refine ⟨M4, ?_, hr⟩
  unfold ags at hF hG
  unfold fL_law_2741 fL_law_2793 fL_law_3031
  simp (disch := omega) only [xix_t, w32_i]
  rw [hF, xbc_l, hG, xbc_l, thrown_e, xbc_l, hk, if_pos rfl]
  by_cases q : k = 0
  · rw [if_pos q, if_pos (hz q)]
  · rw [if_neg q]
theorem go_tradeAmount {sl : Nat} {sx : Nat → Int32} {rc : Int → xM → xO} {x5 : Int} {M : xM} {n : Nat} (h0 : 0 ≤ x5) (h1 : x5 + 10 ≤ (sl : Int)) (h2 : (sl : Int) ≤ 5120) (H : OKc (fL_tradeAmount 0 (ags sx x5 1) 406 M) (fX12_tradeAmount 400 (ags sx x5 1)) (n + 1)) : ∃ M', fL_law_2796 sl sx rc 0 400 406 407 x5 M = rc (x5 + 10) M' ∧ Rel M' (n + 1) := by
  obtain ⟨k, M2, z, M4, hF, hG, hk, hz, hr⟩ := H
  refine ⟨M4, ?_, hr⟩
  unfold ags at hF hG
  unfold fL_law_2796 fL_law_2848 fL_law_3031
  simp (disch := omega) only [xix_t, w32_i]
  rw [hF, xbc_l, hG, xbc_l, thrown_e, xbc_l, hk, if_pos rfl]
  by_cases q : k = 0
  · rw [if_pos q, if_pos (hz q)]
  · rw [if_neg q]
theorem go_age {sl : Nat} {sx : Nat → Int32} {rc : Int → xM → xO} {x5 : Int} {M : xM} {n : Nat} (h0 : 0 ≤ x5) (h1 : x5 + 10 ≤ (sl : Int)) (h2 : (sl : Int) ≤ 5120) (H : OKc (fL_age 0 (ags sx x5 1) 406 M) (fX12_age 400 (ags sx x5 1)) (n + 1)) : ∃ M', fL_law_2851 sl sx rc 0 400 406 407 x5 M = rc (x5 + 10) M' ∧ Rel M' (n + 1) := by
  obtain ⟨k, M2, z, M4, hF, hG, hk, hz, hr⟩ := H
  refine ⟨M4, ?_, hr⟩
  unfold ags at hF hG
  unfold fL_law_2851 fL_law_2904 fL_law_3031
  simp (disch := omega) only [xix_t, w32_i]
  rw [hF, xbc_l, hG, xbc_l, thrown_e, xbc_l, hk, if_pos rfl]
  by_cases q : k = 0
  · rw [if_pos q, if_pos (hz q)]
  · rw [if_neg q]
theorem go_causer {sl : Nat} {sx : Nat → Int32} {rc : Int → xM → xO} {x5 : Int} {M : xM} {n : Nat} (h0 : 0 ≤ x5) (h1 : x5 + 10 ≤ (sl : Int)) (h2 : (sl : Int) ≤ 5120) (H : OKc (fL_causer 0 (ags sx x5 1) 406 M) (fX12_causer 400 (ags sx x5 1)) (n + 1)) : ∃ M', fL_law_2907 sl sx rc 0 400 406 407 x5 M = rc (x5 + 10) M' ∧ Rel M' (n + 1) := by
  obtain ⟨k, M2, z, M4, hF, hG, hk, hz, hr⟩ := H
  refine ⟨M4, ?_, hr⟩
  unfold ags at hF hG
  unfold fL_law_2907 fL_law_2960 fL_law_3031
  simp (disch := omega) only [xix_t, w32_i]
  rw [hF, xbc_l, hG, xbc_l, thrown_e, xbc_l, hk, if_pos rfl]
  by_cases q : k = 0
  · rw [if_pos q, if_pos (hz q)]
  · rw [if_neg q]
theorem go_loans {sl : Nat} {sx : Nat → Int32} {rc : Int → xM → xO} {x5 : Int} {M : xM} {n : Nat} (h0 : 0 ≤ x5) (h1 : x5 + 10 ≤ (sl : Int)) (h2 : (sl : Int) ≤ 5120) (H : OK0 (fX11_loans 0 M) (fX12_loans 400) (n + 1)) : ∃ M', fL_law_2963 sl sx rc 0 400 406 407 x5 M = rc (x5 + 10) M' ∧ Rel M' (n + 1) := by
  obtain ⟨z, M2, M4, hF, hG, hr⟩ := H
  refine ⟨M4, ?_, hr⟩
  unfold fL_law_2963 fL_law_3031
  rw [hF, xbc_l, hG, xbc_l, if_pos rfl, w32_i (by omega) (by omega)]
theorem go_loan {sl : Nat} {sx : Nat → Int32} {rc : Int → xM → xO} {x5 : Int} {M : xM} {n : Nat} (h0 : 0 ≤ x5) (h1 : x5 + 10 ≤ (sl : Int)) (h2 : (sl : Int) ≤ 5120) (H : OKc (fL_loan 0 (ags sx x5 1) 406 M) (fX12_loan 400 (ags sx x5 1)) (n + 1)) : ∃ M', fL_law_2976 sl sx rc 0 400 406 407 x5 M = rc (x5 + 10) M' ∧ Rel M' (n + 1) := by
  obtain ⟨k, M2, z, M4, hF, hG, hk, hz, hr⟩ := H
  refine ⟨M4, ?_, hr⟩
  unfold ags at hF hG
  unfold fL_law_2976 fL_law_3028 fL_law_3031
  simp (disch := omega) only [xix_t, w32_i]
  rw [hF, xbc_l, hG, xbc_l, thrown_e, xbc_l, hk, if_pos rfl]
  by_cases q : k = 0
  · rw [if_pos q, if_pos (hz q)]
  · rw [if_neg q]
/-- every call, whatever its arguments, from every state that stands alike -/
def CallsOK : Prop := ∀ (sx : Nat → Int32) (x5 : Int) (n : Nat) (M : xM), n < 512 → Rel M n → (OKc (fL_open 0 (ags sx x5 1) (agb sx x5 2) (ags sx x5 3) (ags sx x5 4) (ags sx x5 5) 406 M) (fX12_open 400 (ags sx x5 1) (agb sx x5 2) (ags sx x5 3) (ags sx x5 4) (ags sx x5 5)) (n + 1)) ∧ (OKb (fL_lend 0 (ags sx x5 1) 406 M) (fX12_lend 400 (ags sx x5 1)) (n + 1)) ∧ (OKb (fL_relieve 0 (ags sx x5 1) 406 M) (fX12_relieve 400 (ags sx x5 1)) (n + 1)) ∧ (OKc (fL_treaty 0 (ags sx x5 1) (ags sx x5 2) (ags sx x5 3) 406 M) (fX12_treaty 400 (ags sx x5 1) (ags sx x5 2) (ags sx x5 3)) (n + 1)) ∧ (OKc (fL_issue 0 (ags sx x5 1) (ags sx x5 2) (ags sx x5 3) (ags sx x5 4) (ags sx x5 5) 406 M) (fX12_issue 400 (ags sx x5 1) (ags sx x5 2) (ags sx x5 3) (ags sx x5 4) (ags sx x5 5)) (n + 1)) ∧ (OKc (fL_setPrice 0 (ags sx x5 1) (ags sx x5 2) 406 M) (fX12_setPrice 400 (ags sx x5 1) (ags sx x5 2)) (n + 1)) ∧ (OKc (fL_block 0 (ags sx x5 1) (ags sx x5 2) (ags sx x5 3) 406 M) (fX12_block 400 (ags sx x5 1) (ags sx x5 2) (ags sx x5 3)) (n + 1)) ∧ (OKc (fL_bring 0 (ags sx x5 1) (ags sx x5 2) 406 M) (fX12_bring 400 (ags sx x5 1) (ags sx x5 2)) (n + 1)) ∧ (OKc (fL_instruct 0 (ags sx x5 1) (ags sx x5 2) (agb sx x5 3) (ags sx x5 4) (ags sx x5 5) (ags sx x5 6) (ags sx x5 7) (ags sx x5 8) (ags sx x5 9) 406 M) (fX12_instruct 400 (ags sx x5 1) (ags sx x5 2) (agb sx x5 3) (ags sx x5 4) (ags sx x5 5) (ags sx x5 6) (ags sx x5 7) (ags sx x5 8) (ags sx x5 9)) (n + 1)) ∧ (OKc (fL_amend 0 (ags sx x5 1) (ags sx x5 2) 406 M) (fX12_amend 400 (ags sx x5 1) (ags sx x5 2)) (n + 1)) ∧ (OKb (fL_cancel 0 (ags sx x5 1) 406 M) (fX12_cancel 400 (ags sx x5 1)) (n + 1)) ∧ (OKb (fL_hold 0 (ags sx x5 1) 406 M) (fX12_hold 400 (ags sx x5 1)) (n + 1)) ∧ (OKc (fL_link 0 (ags sx x5 1) (ags sx x5 2) (agb sx x5 3) 406 M) (fX12_link 400 (ags sx x5 1) (ags sx x5 2) (agb sx x5 3)) (n + 1)) ∧ (OK0 (fX11_cycle 0 M) (fX12_cycle 400) (n + 1)) ∧ (OK0 (fX11_best 0 M) (fX12_best 400) (n + 1)) ∧ (OK0 (fX11_bestByAll 0 M) (fX12_bestByAll 400) (n + 1)) ∧ (OKc (fL_endDay 0 406 M) (fX12_endDay 400 ) (n + 1)) ∧ (OK0 (fX11_today 0 M) (fX12_today 400) (n + 1)) ∧ (OKc (fL_recall 0 (ags sx x5 1) 406 M) (fX12_recall 400 (ags sx x5 1)) (n + 1)) ∧ (OK0 (fX11_keep 0 M) (fX12_keep 400) (n + 1)) ∧ (OKc (fL_goBack 0 406 M) (fX12_goBack 400 ) (n + 1)) ∧ (OKc (fL_announce 0 (ags sx x5 1) (ags sx x5 2) (ags sx x5 3) (ags sx x5 4) (ags sx x5 5) (ags sx x5 6) (ags sx x5 7) 406 M) (fX12_announce 400 (ags sx x5 1) (ags sx x5 2) (ags sx x5 3) (ags sx x5 4) (ags sx x5 5) (ags sx x5 6) (ags sx x5 7)) (n + 1)) ∧ (OKc (fL_elect 0 (ags sx x5 1) (ags sx x5 2) (ags sx x5 3) 406 M) (fX12_elect 400 (ags sx x5 1) (ags sx x5 2) (ags sx x5 3)) (n + 1)) ∧ (OKc (fL_entitled 0 (ags sx x5 1) (ags sx x5 2) 406 M) (fX12_entitled 400 (ags sx x5 1) (ags sx x5 2)) (n + 1)) ∧ (OKc (fL_entitledAnew 0 (ags sx x5 1) (ags sx x5 2) 406 M) (fX12_entitledAnew 400 (ags sx x5 1) (ags sx x5 2)) (n + 1)) ∧ (OKb (fL_isPaid 0 (ags sx x5 1) 406 M) (fX12_isPaid 400 (ags sx x5 1)) (n + 1)) ∧ (OKc (fL_units 0 (ags sx x5 1) (ags sx x5 2) 406 M) (fX12_units 400 (ags sx x5 1) (ags sx x5 2)) (n + 1)) ∧ (OKc (fL_free 0 (ags sx x5 1) (ags sx x5 2) 406 M) (fX12_free 400 (ags sx x5 1) (ags sx x5 2)) (n + 1)) ∧ (OKc (fL_out 0 (ags sx x5 1) 406 M) (fX12_out 400 (ags sx x5 1)) (n + 1)) ∧ (OKc (fL_cash 0 (ags sx x5 1) 406 M) (fX12_cash 400 (ags sx x5 1)) (n + 1)) ∧ (OKc (fL_pledged 0 (ags sx x5 1) 406 M) (fX12_pledged 400 (ags sx x5 1)) (n + 1)) ∧ (OKc (fL_limit 0 (ags sx x5 1) 406 M) (fX12_limit 400 (ags sx x5 1)) (n + 1)) ∧ (OKb (fL_isSound 0 (ags sx x5 1) 406 M) (fX12_isSound 400 (ags sx x5 1)) (n + 1)) ∧ (OKd (fL_used 0 (ags sx x5 1) 407 M) (fX12_used 400 (ags sx x5 1)) (n + 1)) ∧ (OKc (fL_ledger 0 (ags sx x5 1) 406 M) (fX12_ledger 400 (ags sx x5 1)) (n + 1)) ∧ (OKc (fL_messages 0 (ags sx x5 1) 406 M) (fX12_messages 400 (ags sx x5 1)) (n + 1)) ∧ (OKc (fL_alleged 0 (ags sx x5 1) 406 M) (fX12_alleged 400 (ags sx x5 1)) (n + 1)) ∧ (OKc (fL_status 0 (ags sx x5 1) 406 M) (fX12_status 400 (ags sx x5 1)) (n + 1)) ∧ (OKc (fL_tradeOf 0 (ags sx x5 1) 406 M) (fX12_tradeOf 400 (ags sx x5 1)) (n + 1)) ∧ (OKc (fL_tradeUnits 0 (ags sx x5 1) 406 M) (fX12_tradeUnits 400 (ags sx x5 1)) (n + 1)) ∧ (OKc (fL_tradeAmount 0 (ags sx x5 1) 406 M) (fX12_tradeAmount 400 (ags sx x5 1)) (n + 1)) ∧ (OKc (fL_age 0 (ags sx x5 1) 406 M) (fX12_age 400 (ags sx x5 1)) (n + 1)) ∧ (OKc (fL_causer 0 (ags sx x5 1) 406 M) (fX12_causer 400 (ags sx x5 1)) (n + 1)) ∧ (OK0 (fX11_loans 0 M) (fX12_loans 400) (n + 1)) ∧ (OKc (fL_loan 0 (ags sx x5 1) 406 M) (fX12_loan 400 (ags sx x5 1)) (n + 1))
theorem xsw_P (P : xO → Prop) (c : Int) {D F0 F1 F2 F3 F4 F5 F6 F7 F8 F9 F10 F11 F12 F13 F14 F15 F16 F17 F18 F19 F20 F21 F22 F23 F24 F25 F26 F27 F28 F29 F30 F31 F32 F33 F34 F35 F36 F37 F38 F39 F40 F41 F42 F43 F44 : xO} (hD : P D) (h0 : P F0) (h1 : P F1) (h2 : P F2) (h3 : P F3) (h4 : P F4) (h5 : P F5) (h6 : P F6) (h7 : P F7) (h8 : P F8) (h9 : P F9) (h10 : P F10) (h11 : P F11) (h12 : P F12) (h13 : P F13) (h14 : P F14) (h15 : P F15) (h16 : P F16) (h17 : P F17) (h18 : P F18) (h19 : P F19) (h20 : P F20) (h21 : P F21) (h22 : P F22) (h23 : P F23) (h24 : P F24) (h25 : P F25) (h26 : P F26) (h27 : P F27) (h28 : P F28) (h29 : P F29) (h30 : P F30) (h31 : P F31) (h32 : P F32) (h33 : P F33) (h34 : P F34) (h35 : P F35) (h36 : P F36) (h37 : P F37) (h38 : P F38) (h39 : P F39) (h40 : P F40) (h41 : P F41) (h42 : P F42) (h43 : P F43) (h44 : P F44) : P (xsw c 0 44 D [F0, F1, F2, F3, F4, F5, F6, F7, F8, F9, F10, F11, F12, F13, F14, F15, F16, F17, F18, F19, F20, F21, F22, F23, F24, F25, F26, F27, F28, F29, F30, F31, F32, F33, F34, F35, F36, F37, F38, F39, F40, F41, F42, F43, F44]) := by
  by_cases qc : c < 0 ∨ 44 < c
  · unfold xsw; rw [if_pos qc]; exact hD
  · have hc : c = 0 ∨ c = 1 ∨ c = 2 ∨ c = 3 ∨ c = 4 ∨ c = 5 ∨ c = 6 ∨ c = 7 ∨ c = 8 ∨ c = 9 ∨ c = 10 ∨ c = 11 ∨ c = 12 ∨ c = 13 ∨ c = 14 ∨ c = 15 ∨ c = 16 ∨ c = 17 ∨ c = 18 ∨ c = 19 ∨ c = 20 ∨ c = 21 ∨ c = 22 ∨ c = 23 ∨ c = 24 ∨ c = 25 ∨ c = 26 ∨ c = 27 ∨ c = 28 ∨ c = 29 ∨ c = 30 ∨ c = 31 ∨ c = 32 ∨ c = 33 ∨ c = 34 ∨ c = 35 ∨ c = 36 ∨ c = 37 ∨ c = 38 ∨ c = 39 ∨ c = 40 ∨ c = 41 ∨ c = 42 ∨ c = 43 ∨ c = 44 := by omega
    rcases hc with hc | hc | hc | hc | hc | hc | hc | hc | hc | hc | hc | hc | hc | hc | hc | hc | hc | hc | hc | hc | hc | hc | hc | hc | hc | hc | hc | hc | hc | hc | hc | hc | hc | hc | hc | hc | hc | hc | hc | hc | hc | hc | hc | hc | hc
    · rw [hc]; exact h0
    · rw [hc]; exact h1
    · rw [hc]; exact h2
    · rw [hc]; exact h3
    · rw [hc]; exact h4
    · rw [hc]; exact h5
    · rw [hc]; exact h6
    · rw [hc]; exact h7
    · rw [hc]; exact h8
    · rw [hc]; exact h9
    · rw [hc]; exact h10
    · rw [hc]; exact h11
    · rw [hc]; exact h12
    · rw [hc]; exact h13
    · rw [hc]; exact h14
    · rw [hc]; exact h15
    · rw [hc]; exact h16
    · rw [hc]; exact h17
    · rw [hc]; exact h18
    · rw [hc]; exact h19
    · rw [hc]; exact h20
    · rw [hc]; exact h21
    · rw [hc]; exact h22
    · rw [hc]; exact h23
    · rw [hc]; exact h24
    · rw [hc]; exact h25
    · rw [hc]; exact h26
    · rw [hc]; exact h27
    · rw [hc]; exact h28
    · rw [hc]; exact h29
    · rw [hc]; exact h30
    · rw [hc]; exact h31
    · rw [hc]; exact h32
    · rw [hc]; exact h33
    · rw [hc]; exact h34
    · rw [hc]; exact h35
    · rw [hc]; exact h36
    · rw [hc]; exact h37
    · rw [hc]; exact h38
    · rw [hc]; exact h39
    · rw [hc]; exact h40
    · rw [hc]; exact h41
    · rw [hc]; exact h42
    · rw [hc]; exact h43
    · rw [hc]; exact h44
theorem law_go (H : CallsOK) {sl : Nat} (hsl : sl ≤ 5120) (sx : Nat → Int32) : ∀ (k i : Nat) (M : xM), i + k = 513 → Rel M i → ∃ M', fL_law_28 sl sx 0 400 406 407 (k + 1) (10 * (i : Int)) M = some (.inl 1, M')
  | 0, i, M, hi, hr => by
    refine ⟨M, ?_⟩
    rw [fL_law_28, w32_i (by omega) (by omega), if_pos (by omega)]; rfl
  | k + 1, i, M, hi, hr => by
    rw [fL_law_28, w32_i (by omega) (by omega)]
    by_cases q : (sl : Int) - 10 < 10 * (i : Int)
    · exact ⟨M, by rw [if_pos q]; rfl⟩
    · have g : ∃ M', (xsw (xand (sx (10 * (i : Int)).toNat).toInt 63) 0 44 (fL_law_3031 sl sx (fL_law_28 sl sx 0 400 406 407 (k + 1)) 0 400 406 407 (10 * (i : Int)) M) [(fL_law_240 sl sx (fL_law_28 sl sx 0 400 406 407 (k + 1)) 0 400 406 407 (10 * (i : Int)) M), (fL_law_360 sl sx (fL_law_28 sl sx 0 400 406 407 (k + 1)) 0 400 406 407 (10 * (i : Int)) M), (fL_law_423 sl sx (fL_law_28 sl sx 0 400 406 407 (k + 1)) 0 400 406 407 (10 * (i : Int)) M), (fL_law_486 sl sx (fL_law_28 sl sx 0 400 406 407 (k + 1)) 0 400 406 407 (10 * (i : Int)) M), (fL_law_566 sl sx (fL_law_28 sl sx 0 400 406 407 (k + 1)) 0 400 406 407 (10 * (i : Int)) M), (fL_law_670 sl sx (fL_law_28 sl sx 0 400 406 407 (k + 1)) 0 400 406 407 (10 * (i : Int)) M), (fL_law_738 sl sx (fL_law_28 sl sx 0 400 406 407 (k + 1)) 0 400 406 407 (10 * (i : Int)) M), (fL_law_817 sl sx (fL_law_28 sl sx 0 400 406 407 (k + 1)) 0 400 406 407 (10 * (i : Int)) M), (fL_law_884 sl sx (fL_law_28 sl sx 0 400 406 407 (k + 1)) 0 400 406 407 (10 * (i : Int)) M), (fL_law_1060 sl sx (fL_law_28 sl sx 0 400 406 407 (k + 1)) 0 400 406 407 (10 * (i : Int)) M), (fL_law_1128 sl sx (fL_law_28 sl sx 0 400 406 407 (k + 1)) 0 400 406 407 (10 * (i : Int)) M), (fL_law_1191 sl sx (fL_law_28 sl sx 0 400 406 407 (k + 1)) 0 400 406 407 (10 * (i : Int)) M), (fL_law_1254 sl sx (fL_law_28 sl sx 0 400 406 407 (k + 1)) 0 400 406 407 (10 * (i : Int)) M), (fL_law_1350 sl sx (fL_law_28 sl sx 0 400 406 407 (k + 1)) 0 400 406 407 (10 * (i : Int)) M), (fL_law_1363 sl sx (fL_law_28 sl sx 0 400 406 407 (k + 1)) 0 400 406 407 (10 * (i : Int)) M), (fL_law_1377 sl sx (fL_law_28 sl sx 0 400 406 407 (k + 1)) 0 400 406 407 (10 * (i : Int)) M), (fL_law_1391 sl sx (fL_law_28 sl sx 0 400 406 407 (k + 1)) 0 400 406 407 (10 * (i : Int)) M), (fL_law_1435 sl sx (fL_law_28 sl sx 0 400 406 407 (k + 1)) 0 400 406 407 (10 * (i : Int)) M), (fL_law_1448 sl sx (fL_law_28 sl sx 0 400 406 407 (k + 1)) 0 400 406 407 (10 * (i : Int)) M), (fL_law_1503 sl sx (fL_law_28 sl sx 0 400 406 407 (k + 1)) 0 400 406 407 (10 * (i : Int)) M), (fL_law_1516 sl sx (fL_law_28 sl sx 0 400 406 407 (k + 1)) 0 400 406 407 (10 * (i : Int)) M), (fL_law_1560 sl sx (fL_law_28 sl sx 0 400 406 407 (k + 1)) 0 400 406 407 (10 * (i : Int)) M), (fL_law_1692 sl sx (fL_law_28 sl sx 0 400 406 407 (k + 1)) 0 400 406 407 (10 * (i : Int)) M), (fL_law_1771 sl sx (fL_law_28 sl sx 0 400 406 407 (k + 1)) 0 400 406 407 (10 * (i : Int)) M), (fL_law_1838 sl sx (fL_law_28 sl sx 0 400 406 407 (k + 1)) 0 400 406 407 (10 * (i : Int)) M), (fL_law_1905 sl sx (fL_law_28 sl sx 0 400 406 407 (k + 1)) 0 400 406 407 (10 * (i : Int)) M), (fL_law_1968 sl sx (fL_law_28 sl sx 0 400 406 407 (k + 1)) 0 400 406 407 (10 * (i : Int)) M), (fL_law_2035 sl sx (fL_law_28 sl sx 0 400 406 407 (k + 1)) 0 400 406 407 (10 * (i : Int)) M), (fL_law_2102 sl sx (fL_law_28 sl sx 0 400 406 407 (k + 1)) 0 400 406 407 (10 * (i : Int)) M), (fL_law_2157 sl sx (fL_law_28 sl sx 0 400 406 407 (k + 1)) 0 400 406 407 (10 * (i : Int)) M), (fL_law_2212 sl sx (fL_law_28 sl sx 0 400 406 407 (k + 1)) 0 400 406 407 (10 * (i : Int)) M), (fL_law_2267 sl sx (fL_law_28 sl sx 0 400 406 407 (k + 1)) 0 400 406 407 (10 * (i : Int)) M), (fL_law_2322 sl sx (fL_law_28 sl sx 0 400 406 407 (k + 1)) 0 400 406 407 (10 * (i : Int)) M), (fL_law_2385 sl sx (fL_law_28 sl sx 0 400 406 407 (k + 1)) 0 400 406 407 (10 * (i : Int)) M), (fL_law_2462 sl sx (fL_law_28 sl sx 0 400 406 407 (k + 1)) 0 400 406 407 (10 * (i : Int)) M), (fL_law_2517 sl sx (fL_law_28 sl sx 0 400 406 407 (k + 1)) 0 400 406 407 (10 * (i : Int)) M), (fL_law_2573 sl sx (fL_law_28 sl sx 0 400 406 407 (k + 1)) 0 400 406 407 (10 * (i : Int)) M), (fL_law_2629 sl sx (fL_law_28 sl sx 0 400 406 407 (k + 1)) 0 400 406 407 (10 * (i : Int)) M), (fL_law_2685 sl sx (fL_law_28 sl sx 0 400 406 407 (k + 1)) 0 400 406 407 (10 * (i : Int)) M), (fL_law_2741 sl sx (fL_law_28 sl sx 0 400 406 407 (k + 1)) 0 400 406 407 (10 * (i : Int)) M), (fL_law_2796 sl sx (fL_law_28 sl sx 0 400 406 407 (k + 1)) 0 400 406 407 (10 * (i : Int)) M), (fL_law_2851 sl sx (fL_law_28 sl sx 0 400 406 407 (k + 1)) 0 400 406 407 (10 * (i : Int)) M), (fL_law_2907 sl sx (fL_law_28 sl sx 0 400 406 407 (k + 1)) 0 400 406 407 (10 * (i : Int)) M), (fL_law_2963 sl sx (fL_law_28 sl sx 0 400 406 407 (k + 1)) 0 400 406 407 (10 * (i : Int)) M), (fL_law_2976 sl sx (fL_law_28 sl sx 0 400 406 407 (k + 1)) 0 400 406 407 (10 * (i : Int)) M)]) = fL_law_28 sl sx 0 400 406 407 (k + 1) (10 * (i : Int) + 10) M' ∧ Rel M' (i + 1) := by
        have a0 : 0 ≤ 10 * (i : Int) := by omega
        have a1 : 10 * (i : Int) + 10 ≤ (sl : Int) := by omega
        have a2 : (sl : Int) ≤ 5120 := by omega
        obtain ⟨c_open, c_lend, c_relieve, c_treaty, c_issue, c_setPrice, c_block, c_bring, c_instruct, c_amend, c_cancel, c_hold, c_link, c_cycle, c_best, c_bestByAll, c_endDay, c_today, c_recall, c_keep, c_goBack, c_announce, c_elect, c_entitled, c_entitledAnew, c_isPaid, c_units, c_free, c_out, c_cash, c_pledged, c_limit, c_isSound, c_used, c_ledger, c_messages, c_alleged, c_status, c_tradeOf, c_tradeUnits, c_tradeAmount, c_age, c_causer, c_loans, c_loan⟩ := H sx (10 * (i : Int)) i M (by omega) hr
        exact xsw_P (fun F => ∃ M', F = fL_law_28 sl sx 0 400 406 407 (k + 1) (10 * (i : Int) + 10) M' ∧ Rel M' (i + 1)) _ ⟨M, by unfold fL_law_3031; rw [w32_i (by omega) (by omega)], hr.fr (fun _ _ _ => rfl)⟩ (go_open a0 a1 a2 c_open) (go_lend a0 a1 a2 c_lend) (go_relieve a0 a1 a2 c_relieve) (go_treaty a0 a1 a2 c_treaty) (go_issue a0 a1 a2 c_issue) (go_setPrice a0 a1 a2 c_setPrice) (go_block a0 a1 a2 c_block) (go_bring a0 a1 a2 c_bring) (go_instruct a0 a1 a2 c_instruct) (go_amend a0 a1 a2 c_amend) (go_cancel a0 a1 a2 c_cancel) (go_hold a0 a1 a2 c_hold) (go_link a0 a1 a2 c_link) (go_cycle a0 a1 a2 c_cycle) (go_best a0 a1 a2 c_best) (go_bestByAll a0 a1 a2 c_bestByAll) (go_endDay a0 a1 a2 c_endDay) (go_today a0 a1 a2 c_today) (go_recall a0 a1 a2 c_recall) (go_keep a0 a1 a2 c_keep) (go_goBack a0 a1 a2 c_goBack) (go_announce a0 a1 a2 c_announce) (go_elect a0 a1 a2 c_elect) (go_entitled a0 a1 a2 c_entitled) (go_entitledAnew a0 a1 a2 c_entitledAnew) (go_isPaid a0 a1 a2 c_isPaid) (go_units a0 a1 a2 c_units) (go_free a0 a1 a2 c_free) (go_out a0 a1 a2 c_out) (go_cash a0 a1 a2 c_cash) (go_pledged a0 a1 a2 c_pledged) (go_limit a0 a1 a2 c_limit) (go_isSound a0 a1 a2 c_isSound) (go_used a0 a1 a2 c_used) (go_ledger a0 a1 a2 c_ledger) (go_messages a0 a1 a2 c_messages) (go_alleged a0 a1 a2 c_alleged) (go_status a0 a1 a2 c_status) (go_tradeOf a0 a1 a2 c_tradeOf) (go_tradeUnits a0 a1 a2 c_tradeUnits) (go_tradeAmount a0 a1 a2 c_tradeAmount) (go_age a0 a1 a2 c_age) (go_causer a0 a1 a2 c_causer) (go_loans a0 a1 a2 c_loans) (go_loan a0 a1 a2 c_loan)
      obtain ⟨M', g1, g2⟩ := g
      rw [if_neg q, xix_t (by omega) (by omega), g1, show (10 * (i : Int) + 10) = 10 * ((i + 1 : Nat) : Int) by omega]
      exact law_go H hsl sx k (i + 1) M' (by omega) g2
