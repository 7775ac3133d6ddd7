theorem c_tell {a : Nat} (ha : a < 10) (M : xM) : fX8_tell 1 (a : Int) M = some (.inl 0, xup M 2 a (w32 (M 2 a + 1))) := by
  unfold fX8_tell
  rw [if_neg (by omega), if_neg (by omega), xix_t (by omega) (by omega), xix_t (by omega) (by omega), xr_1_0, Int.toNat_natCast]; rfl
def sTel (T : Nat → Int) (a : Nat) : Nat → Int := ups T a (w32 (T a + 1))
def sTb (w T : Nat → Int) (t : Nat) : Nat → Int := sTel (sTel T (dl w t)) (rc w t)
def told (M : xM) (T : Nat → Int) : Prop := ∀ a : Nat, a < 10 → M 2 a = T a
theorem told.tel {M : xM} {T : Nat → Int} (h : told M T) {b : Nat} (hb : b < 10) : told (xup M 2 b (w32 (M 2 b + 1))) (sTel T b) := fun a ha => by
  unfold sTel
  by_cases q : a = b
  · subst q; rw [xup_same, ups_same, h a ha]
  · rw [xup_k q, ups_ne q, h a ha]
theorem told.c {M : xM} {T : Nat → Int} (h : told M T) {c k : Nat} {v : Int} (hc : c ≠ 2) : told (xup M c k v) T := tol h hc
/-- the class's memory, but for what it told -/
def ofT (M M' : xM) : Prop := ∀ c, c ≠ 2 → M' c = M c
theorem c_tb {M : xM} {w T : Nat → Int} (hR : R M w) (hT : told M T) {t : Nat} (f : TF w t) (ht : (t : Int) < w 1543) : ∃ M', fX1_tellBoth 3 (102 + t) M = some (.inl 0, M') ∧ told M' (sTb w T t) ∧ ofT M M' := by
  obtain ⟨f0, f1, f2, f3, f4, -⟩ := id f
  refine ⟨_, ?_, (hT.tel f3).tel f4, fun c hc => ?_⟩
  · unfold fX1_tellBoth
    rw [xr_3_0, hR.tD ht f, c_tell f3, xb_l, xup_c (a := 102 + t) (by omega), hR.tR ht f, c_tell f4, xb_l]; rfl
  · rw [xup_row hc, xup_row hc]
def wPs (w : Nat → Int) (t : Nat) (s : Int) : Nat → Int := ups (ups (ups w (870 + t) (s - 1)) (570 + di w t) s) (570 + ri w t) s
def mPs (M : xM) (w : Nat → Int) (t : Nat) (s : Int) : xM := xup (xup (xup M (102 + t) 12 s) (61 + di w t) 9 s) (61 + ri w t) 9 s
theorem c_ps {M : xM} {w : Nat → Int} (hR : R M w) {t : Nat} (f : TF w t) (s : Int) : fX1_putStatus 3 (102 + t) s M = some (.inl 0, mPs M w t s) ∧ R (mPs M w t s) (wPs w t s) := by
  obtain ⟨f0, f1, f2, -, -, -, f6, f7, -⟩ := id f
  refine ⟨?_, ((hR.tst_up f0 (by omega)).ist_up f1).ist_up f2⟩
  unfold fX1_putStatus
  rw [xput_b, xup_k (by omega), hR.tdel f0, f6, c_ins (by omega), xb_l, Int.toNat_natCast, xput_b, xup_c (a := 102 + t) (by omega), xup_k (by omega), hR.trec f0, f7, c_ins (by omega), xb_l, Int.toNat_natCast]; rfl
/-- links: those of a trade go, if g -/
def gG (w : Nat → Int) (t : Int) (g : Bool) (i : Nat) : Bool := g && sNm w t i
def wLk (t : Int) (g : Bool) : Nat → Nat → Nat → (Nat → Int) → (Nat → Int)
  | 0, _, l, w => ups w 1544 (l : Int)
  | k + 1, i, l, w => wLk t g k (i + 1) (if gG w t g i then l else l + 1) (ups (ups (ups w (890 + l) (w (890 + i))) (900 + l) (w (900 + i))) (910 + l) (w (910 + i)))
theorem wLk_ne (t : Int) (g : Bool) : ∀ (k i l : Nat) (w : Nat → Int), i + k ≤ 10 → l ≤ i → ∀ j, ¬ (890 ≤ j ∧ j < 920) → j ≠ 1544 → wLk t g k i l w j = w j
  | 0, _, _, _, _, _, _, _, h2 => ups_ne h2
  | k + 1, i, l, w, hi, hl, j, h1, h2 => by
    unfold wLk
    rw [wLk_ne t g k (i + 1) _ _ (by omega) (by split <;> omega) j h1 h2, ups_ne (by omega), ups_ne (by omega), ups_ne (by omega)]
theorem wLk_cnt (t : Int) (g : Bool) : ∀ (k i l : Nat) (w : Nat → Int), i + k ≤ 10 → l ≤ i → ∃ n : Nat, wLk t g k i l w 1544 = (n : Int) ∧ n ≤ i + k
  | 0, i, l, w, _, hl => ⟨l, ups_same, by omega⟩
  | k + 1, i, l, w, hi, hl => by
    unfold wLk
    obtain ⟨n, h1, h2⟩ := wLk_cnt t g k (i + 1) (if gG w t g i then l else l + 1) (ups (ups (ups w (890 + l) (w (890 + i))) (900 + l) (w (900 + i))) (910 + l) (w (910 + i))) (by omega) (by split <;> omega)
    exact ⟨n, h1, by omega⟩
/-- nothing goes: the links stay -/
theorem wLk_id (t : Int) : ∀ (k i : Nat) (w : Nat → Int), (i : Int) + k = w 1544 → wLk t false k i i w = w
  | 0, i, w, h => by unfold wLk; exact ups_id (by omega)
  | k + 1, i, w, h => by
    unfold wLk
    rw [ups_self, ups_self, ups_self]
    exact wLk_id t k (i + 1) w (by omega)
theorem R.lks {M M' : xM} {w w' : Nat → Int} (h : R M w) (hM : ∀ c k, ¬ (123 ≤ c ∧ c < 133) → ¬ (c = 3 ∧ k = 13) → M' c k = M c k) (hw : ∀ j, ¬ (890 ≤ j ∧ j < 920) → j ≠ 1544 → w' j = w j) (hc : M' 3 13 = w' 1544) (hr : ∀ k : Nat, k < 10 → (k : Int) < w' 1544 → M' (123 + k) 0 = w' (890 + k) ∧ M' (123 + k) 1 = w' (900 + k) ∧ M' (123 + k) 2 = w' (910 + k)) : R M' w' := by
  refine ⟨fun i hi hl => ?_, h.2.1.fr (fun c k q => hM c k (fun z => by simp [tcT] at q; omega) (fun z => by rw [z.1] at q; simp [tcT] at q)) (fun j q => hw j (fun z => by simp [tjT] at q; omega) (fun z => by subst z; simp [tjT] at q)), h.2.2.1.fr (fun l q => ⟨hM _ _ (by omega) (by omega), hM _ _ (by omega) (by omega)⟩) (fun l q => hw _ (by omega) (by omega)) (hw _ (by omega) (by omega)), h.2.2.2.fr (fun t q => hM _ _ (by omega) (by omega)) (fun l q q2 => ⟨hM _ _ (by omega) (by omega), hM _ _ (by omega) (by omega)⟩) (fun i q q2 => hM _ _ (by omega) (by omega)) (Int.le_of_eq (hw _ (by omega) (by omega)).symm) (Int.le_of_eq (hw _ (by omega) (by omega)).symm)⟩
  by_cases q : i = 1544
  · subst q
    obtain ⟨-, -, -, c0, -⟩ := f_cnt
    rw [c0, show off 1544 = 0 by decide, Int.add_zero]; exact hc
  · by_cases q2 : 890 ≤ i ∧ i < 920
    · have key : ∃ k : Nat, k < 10 ∧ (k : Int) < w' 1544 ∧ (i = 890 + k ∨ i = 900 + k ∨ i = 910 + k) := by
        obtain ⟨-, -, l3, l4, l5, -⟩ := hl
        by_cases a1 : i < 900
        · exact ⟨i - 890, by omega, by have := l3 (by omega) a1; omega, by omega⟩
        · by_cases a2 : i < 910
          · exact ⟨i - 900, by omega, by have := l4 (by omega) a2; omega, by omega⟩
          · exact ⟨i - 910, by omega, by have := l5 (by omega) (by omega); omega, by omega⟩
      obtain ⟨k, k1, k2, k4⟩ := key
      obtain ⟨r1, r2, r3⟩ := hr k k1 k2
      rcases k4 with rfl | rfl | rfl
      · obtain ⟨f1, -, f3, -⟩ := f_kfst k k1; rw [f1, f3, Int.add_zero]; exact r1
      · obtain ⟨f1, -, f3, -⟩ := f_ksnd k k1; rw [f1, f3, Int.add_zero]; exact r2
      · obtain ⟨f1, -, f3, -⟩ := f_kwit k k1; rw [f1, f3, Int.add_zero]; exact r3
    · have hl2 : live w i := by
        unfold live at hl ⊢
        rw [hw 1540 (by omega) (by omega), hw 1542 (by omega) (by omega), hw 1545 (by omega) (by omega)] at hl
        obtain ⟨l1, l2, l3, l4, l5, l6⟩ := hl
        exact ⟨l1, l2, fun a b => by omega, fun a b => by omega, fun a b => by omega, l6⟩
      have hne : ¬ (123 ≤ (cj i).1 ∧ (cj i).1 < 133) := fun z => by
        have e := mpd_jc hi
        obtain ⟨k, hk, hk2⟩ : ∃ k, k < 10 ∧ (cj i).1 = 123 + k := ⟨(cj i).1 - 123, by omega, by omega⟩
        rw [hk2] at e
        have hj : ∀ x : Nat, jc (123 + k) x = 890 + k ∨ jc (123 + k) x = 900 + k ∨ jc (123 + k) x = 910 + k ∨ jc (123 + k) x = 9999 := fun x => by
          unfold jc
          repeat rw [if_neg (by omega)]
          rw [if_pos (by omega)]
          unfold jcK
          rw [show 123 + k - 123 = k by omega]
          by_cases x0 : x = 0
          · rw [if_pos x0]; omega
          · rw [if_neg x0]
            by_cases x1 : x = 1
            · rw [if_pos x1]; omega
            · rw [if_neg x1]
              by_cases x2 : x = 2
              · rw [if_pos x2]; omega
              · rw [if_neg x2]; omega
        have := hj (cj i).2
        have := mpd_lt hi
        omega
      have hne2 : ¬ ((cj i).1 = 3 ∧ (cj i).2 = 13) := fun z => by
        obtain ⟨-, -, -, c0, -, -, -, -, m0, -⟩ := f_cnt
        exact q (mpd_inj hi m0 (by rw [c0, ← z.1, ← z.2]))
      rw [hM _ _ hne hne2, hw i q2 q]; exact h.1 i hi hl2
