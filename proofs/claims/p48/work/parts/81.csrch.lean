-- the class's search
/-- t is among what f has of the candidates c -/
def pS (c : Nat → Nat) (f : Nat → Bool) : Nat → Nat → Bool
  | 0, _ => false
  | n + 1, t => pS c f n t || (f n && decide (c n = t))
theorem pS_iff {c : Nat → Nat} {f : Nat → Bool} {t : Nat} : ∀ n, pS c f n t = true ↔ ∃ k, k < n ∧ f k = true ∧ c k = t
  | 0 => ⟨fun h => Bool.noConfusion (show false = true from h), fun ⟨k, hk, _⟩ => absurd hk (Nat.not_lt_zero _)⟩
  | n + 1 => by
    show (pS c f n t || (f n && decide (c n = t))) = true ↔ _
    simp only [Bool.or_eq_true, Bool.and_eq_true, decide_eq_true_eq]
    rw [pS_iff n]
    refine ⟨fun h => ?_, fun ⟨k, k1, k2, k3⟩ => ?_⟩
    · rcases h with ⟨k, k1, k2, k3⟩ | ⟨h1, h2⟩
      · exact ⟨k, by omega, k2, k3⟩
      · exact ⟨n, by omega, h1, h2⟩
    · by_cases z : k = n
      · right; rw [← z]; exact ⟨k2, k3⟩
      · left; exact ⟨k, by omega, k2, k3⟩
/-- the candidates: live, due, one another's -/
def CD (w : Nat → Int) (c : Nat → Nat) (q : Nat) : Prop := q ≤ 10 ∧ (∀ k, k < q → (c k : Int) < w 1543 ∧ w (870 + c k) = 0) ∧ ∀ i j, i < q → j < q → c i = c j → i = j
theorem pS_c {w : Nat → Int} {c : Nat → Nat} {q : Nat} (hc : CD w c q) {f : Nat → Bool} {k : Nat} (hk : k < q) : pS c f q (c k) = f k := by
  rw [Bool.eq_iff_iff, pS_iff]
  refine ⟨fun ⟨i, i1, i2, i3⟩ => ?_, fun h => ⟨k, hk, h, rfl⟩⟩
  rw [← hc.2.2 i k i1 hk i3]; exact i2
theorem pS_gs {w : Nat → Int} {c : Nat → Nat} {q : Nat} {f : Nat → Bool} {k t : Nat} (hk : k < q) : pS c (gs f k) q t = (pS c f q t || decide (t = c k)) := by
  rw [Bool.eq_iff_iff, Bool.or_eq_true, decide_eq_true_eq, pS_iff, pS_iff]
  refine ⟨fun ⟨i, i1, i2, i3⟩ => ?_, fun h => ?_⟩
  · have i2' : (f i || decide (i = k)) = true := i2
    rw [Bool.or_eq_true, decide_eq_true_eq] at i2'
    rcases i2' with z | z
    · exact Or.inl ⟨i, i1, z, i3⟩
    · right; rw [← i3, z]
  · rcases h with ⟨i, i1, i2, i3⟩ | h
    · refine ⟨i, i1, ?_, i3⟩
      show (f i || decide (i = k)) = true
      rw [i2]; rfl
    · refine ⟨k, hk, ?_, h.symm⟩
      show (f k || decide (k = k)) = true
      rw [decide_eq_true rfl, Bool.or_true]
theorem pS_out {w : Nat → Int} {c : Nat → Nat} {q : Nat} (hc : CD w c q) {f : Nat → Bool} {k t : Nat} (hk : k < q) (hf : f k = false) : (pS c (gs f k) q t && !decide (t = c k)) = pS c f q t := by
  rw [pS_gs (w := w) hk]
  by_cases z : t = c k
  · rw [z, pS_c hc hk, hf, decide_eq_true rfl]; rfl
  · rw [decide_eq_false z, Bool.or_false, Bool.not_false, Bool.and_true]
/-- worth -/
def gW (w : Nat → Int) (c : Nat → Nat) (k : Nat) : Int := w (790 + c k) + w (770 + c k) * w (184 + pp w (c k))
def Wf (w : Nat → Int) (c : Nat → Nat) (q : Nat) (f : Nat → Bool) : Int := sf f (gW w c) q
def Cf (q : Nat) (f : Nat → Bool) : Int := sf f (fun _ => 1) q
/-- what a set's shift adds -/
def DA (w : Nat → Int) (c : Nat → Nat) (f : Nat → Bool) (n j : Nat) : Int := sf f (fun k => dT w (c k) (w (770 + c k)) (w (790 + c k)) j) n
/-- the candidates' numbers are in bounds -/
def BW (w : Nat → Int) (c : Nat → Nat) (q : Nat) : Prop := (∀ k, k < q → TF w (c k) ∧ (0 ≤ w (770 + c k) ∧ w (770 + c k) ≤ 59049000000) ∧ (0 ≤ w (790 + c k) ∧ w (790 + c k) ≤ 100000000)) ∧ (∀ s : Nat, s < 4 → 0 ≤ w (184 + s) ∧ w (184 + s) ≤ 1000) ∧ ∀ a s : Nat, a < 10 → s < 4 → 0 ≤ w (100 + 4 * a + s) ∧ w (100 + 4 * a + s) ≤ 59049000000 ∧ 0 ≤ w (140 + 4 * a + s) ∧ w (140 + 4 * a + s) ≤ 59049000000
theorem BW.g {w : Nat → Int} {c : Nat → Nat} {q : Nat} (h : BW w c q) {k : Nat} (hk : k < q) : 0 ≤ gW w c k ∧ gW w c k ≤ 60000000000000 ∧ 0 ≤ w (770 + c k) * w (184 + pp w (c k)) ∧ w (770 + c k) * w (184 + pp w (c k)) ≤ 59049000000000 := by
  obtain ⟨f, u, a⟩ := h.1 k hk
  have p := h.2.1 (pp w (c k)) f.2.2.2.2.2.1
  have m0 : 0 ≤ w (770 + c k) * w (184 + pp w (c k)) := Int.mul_nonneg u.1 p.1
  have m1 : w (770 + c k) * w (184 + pp w (c k)) ≤ 59049000000 * 1000 := Int.mul_le_mul u.2 p.2 p.1 (by omega)
  unfold gW; omega
theorem sf_abs {f : Nat → Bool} {g : Nat → Int} {B : Int} (hB : 0 ≤ B) : ∀ n, (∀ k, k < n → -B ≤ g k ∧ g k ≤ B) → -(n * B) ≤ sf f g n ∧ sf f g n ≤ n * B
  | 0, _ => by unfold sf sm; omega
  | n + 1, h => by
    have := sf_abs (f := f) hB n (fun k hk => h k (by omega))
    have := h n (by omega)
    have e : ((n + 1 : Nat) : Int) * B = n * B + B := by rw [Int.natCast_add, Int.add_mul]; omega
    rw [sf_s, e]; split <;> omega
theorem Wf_b {w : Nat → Int} {c : Nat → Nat} {q : Nat} (h : BW w c q) (hq : q ≤ 10) (f : Nat → Bool) : 0 ≤ Wf w c q f ∧ Wf w c q f ≤ 600000000000000 := by
  have a := sf_nn (f := f) (g := gW w c) q (fun k hk => (h.g hk).1)
  have b := sf_le (f := f) (g := gW w c) (B := 60000000000000) (by omega) q (fun k hk => (h.g hk).2.1)
  unfold Wf; omega
theorem Cf_b {q : Nat} (hq : q ≤ 10) (f : Nat → Bool) : 0 ≤ Cf q f ∧ Cf q f ≤ 10 := by
  have a := sf_nn (f := f) (g := fun _ => 1) q (fun k hk => by show (0 : Int) ≤ 1; omega)
  have b := sf_le (f := f) (g := fun _ => 1) (B := 1) (by omega) q (fun k hk => by show (1 : Int) ≤ 1; omega)
  unfold Cf; omega
theorem Cf_0 {q : Nat} {f : Nat → Bool} : ∀ n, sf f (fun _ => 1) n = 0 → ∀ k, k < n → f k = false
  | 0, _, k, hk => absurd hk (Nat.not_lt_zero _)
  | n + 1, h, k, hk => by
    rw [sf_s] at h
    have a := sf_nn (f := f) (g := fun _ => 1) n (fun k hk => by show (0 : Int) ≤ 1; omega)
    cases e : f n
    · rw [e, if_f] at h
      by_cases z : k = n
      · rw [z]; exact e
      · exact Cf_0 (q := q) n (by omega) k (by omega)
    · rw [e, if_t] at h; omega
theorem OW.mk {w : Nat → Int} {c : Nat → Nat} {q : Nat} (h : BW w c q) (hq : q ≤ 10) : OW (Wf w c q) (Cf q) (gW w c) q := by
  refine ⟨fun f _ => ?_, fun f hf => ⟨?_, fun e => ?_⟩, fun n S f hS hf hn hk => ?_⟩
  · unfold Wf; rw [sf_e0]; exact (Wf_b h hq f).1
  · unfold Cf; rw [sf_e0]; exact (Cf_b hq f).1
  · unfold Cf at e; rw [sf_e0] at e
    exact hf.ext (FF.e0 q) (fun k hk => Cf_0 (q := q) q e k hk)
  · exact sf_3 q (fun k hk2 => ⟨(h.g hk2).1, fun z => by
      by_cases y : k < n
      · left; rw [← hk k y]; exact z
      · right; exact decide_eq_true (by omega)⟩)
/-- links kept -/
def stl (w : Nat → Int) (t : Nat) : Bool := decide (w (870 + t) = 1)
def lkP (w : Nat → Int) (c : Nat → Nat) (q : Nat) (f : Nat → Bool) (x y : Nat) : Bool := pS c f q x && !(pS c f q y || stl w y)
def lkO (w : Nat → Int) (c : Nat → Nat) (q : Nat) (f : Nat → Bool) (i : Nat) : Bool := !lkP w c q f (w (890 + i)).toNat (w (900 + i)).toNat && !(decide (w (910 + i) = 1) && lkP w c q f (w (900 + i)).toNat (w (890 + i)).toNat)
def lkA (w : Nat → Int) (c : Nat → Nat) (q : Nat) (f : Nat → Bool) : Nat → Nat → Bool
  | 0, _ => true
  | k + 1, i => lkO w c q f i && lkA w c q f k (i + 1)
def fmO (x w : Nat → Int) (c : Nat → Nat) (f : Nat → Bool) (k : Nat) : Bool := !f k || (sSnd x (dl w (c k)) && sSnd x (rc w (c k)))
def fmA (x w : Nat → Int) (c : Nat → Nat) (f : Nat → Bool) : Nat → Nat → Bool
  | 0, _ => true
  | k + 1, i => fmO x w c f i && fmA x w c f k (i + 1)
/-- a set may settle -/
def may (w : Nat → Int) (c : Nat → Nat) (q : Nat) (f : Nat → Bool) : Bool := lkA w c q f (w 1544).toNat 0 && fmA (wA w (DA w c f q)) w c f q 0
/-- where the class's search stands -/
def DX (w : Nat → Int) (c : Nat → Nat) (q : Nat) (M : xM) (f : Nat → Bool) : Prop := R M (wA w (DA w c f q)) ∧ (R32 (M 395 5) ∧ ∀ t, t < 20 → bb (M 395 5) t = pS c f q t) ∧ M 395 6 = Cf q f ∧ M 395 7 = Wf w c q f ∧ M 395 4 = (q : Int) ∧ ∀ k, k < q → M 396 k = (c k : Int)
def BX (w : Nat → Int) (c : Nat → Nat) (q : Nat) (M : xM) (r : Nat → Bool) : Prop := (R32 (M 395 8) ∧ ∀ t, t < 20 → bb (M 395 8) t = pS c r q t) ∧ M 395 9 = Cf q r ∧ M 395 10 = Wf w c q r
def fg (M M' : xM) : Prop := ∀ x, x ≠ 395 → (x < 12 ∨ 52 ≤ x ∨ x % 4 = 2 ∨ x % 4 = 3) → M' x = M x
theorem fg.refl (M : xM) : fg M M := fun _ _ _ => rfl
theorem fg.trans {M N P : xM} (h : fg M N) (h2 : fg N P) : fg M P := fun x a b => (h2 x a b).trans (h x a b)
theorem fg.x {M N : xM} (h : fg M N) {k : Nat} {v : Int} : fg M (xup N 395 k v) := fun x a b => by rw [xup_row a]; exact h x a b
theorem fs.g {M N : xM} (h : fs M N) : fg M N := fun x _ b => h x b
theorem DA_gs {w : Nat → Int} {c : Nat → Nat} {q k : Nat} {f : Nat → Bool} (hk : k < q) (h : f k = false) (j : Nat) : DA w c (gs f k) q j = DA w c f q j + dT w (c k) (w (770 + c k)) (w (790 + c k)) j := sf_gs hk h
theorem c_worth {M : xM} {w : Nat → Int} {c : Nat → Nat} {q k : Nat} (hB : BW w c q) (hk : k < q) (hl : (c k : Int) < w 1543) {D : Nat → Int} (hR : R M (wA w D)) : fX2_worthOf 395 (102 + c k) M = some (.inl (gW w c k), M) := by
  obtain ⟨f, u, a⟩ := hB.1 k hk
  have g := hB.g hk
  obtain ⟨f1, -, -, -, -, e⟩ := f.wA D
  unfold fX2_worthOf
  rw [xr_395_0, hR.tP (by rw [wA_n (by omega)]; exact hl) f1, e, c_wor hR f.2.2.2.2.2.1, xb_l, hR.tun f.1, hR.tam f.1, wA_n (by omega), wA_n (by omega), wA_n (by have := f.2.2.2.2.2.1; omega), w64_i (x := w (770 + c k) * w (184 + pp w (c k))) (by omega) (by omega)]
  unfold gW at g
  rw [w64_i (by omega) (by omega)]; rfl
theorem c_put {M : xM} {w : Nat → Int} {c : Nat → Nat} {q k : Nat} {f r : Nat → Bool} (hc : CD w c q) (hB : BW w c q) (hk : k < q) (hf : f k = false) (hD : DX w c q M f) (hS : BX w c q M r) : ∃ M', fX2_putIn 395 (102 + c k) M = some (.inl 0, M') ∧ DX w c q M' (gs f k) ∧ BX w c q M' r ∧ fg M M' := by
  obtain ⟨d1, d2, d3, d4, d5, d6⟩ := hD
  obtain ⟨s1, s2, s3⟩ := hS
  obtain ⟨hq, hc2, -⟩ := id hc
  have hl := (hc2 k hk).1
  obtain ⟨ft, -, -⟩ := hB.1 k hk
  obtain ⟨f1, -, -, e1, e2, e3⟩ := ft.wA (DA w c f q)
  obtain ⟨M1, a1, a2, a3⟩ := c_shf d1 (wA_q _ _) (t := c k) (by rw [wA_n (by omega)]; exact hl) f1 (M (102 + c k) 6) (M (102 + c k) 7)
  rw [d1.tun ft.1, d1.tam ft.1, wA_n (by have := ft.1; omega), wA_n (by have := ft.1; omega), dT_wA ft, wA_wA, wA_e (E := DA w c (gs f k) q) (fun j => (DA_gs hk hf j).symm)] at a2
  have m0 : M1 (102 + c k) 0 = (c k : Int) := by rw [a3 _ (by omega)]; exact d1.tN ft.1
  have m5 := a3 395 (by omega)
  have cb := Cf_b hq f
  have wb := Wf_b hB hq f
  have gb' := hB.g hk
  have R1 : R (xup (xup M1 395 5 (xor32 (M1 395 5) (xshl 1 (c k : Int)))) 395 6 (Cf q f + 1)) (wA w (DA w c (gs f k) q)) := a2.fr (fun x _ _ => by rw [xup_row (by omega), xup_row (by omega)])
  refine ⟨xup (xup (xup M1 395 5 (xor32 (M1 395 5) (xshl 1 (c k : Int)))) 395 6 (Cf q f + 1)) 395 7 (Wf w c q f + gW w c k), ?_, ⟨R1.fr (fun x _ _ => by rw [xup_row (by omega)]), ⟨?_, fun t ht => ?_⟩, ?_, ?_, ?_, fun i hi => ?_⟩, ⟨⟨?_, fun t ht => ?_⟩, ?_, ?_⟩, a3.g.x.x.x⟩
  · unfold fX2_putIn
    rw [xr_395_0, show fX1_shift 3 (102 + c k) (M (102 + c k) 6) (M (102 + c k) 7) M = _ from a1, xb_l, m0, xput_b, xup_k (b := 6) (by omega), m5, d3, w32_i (x := Cf q f + 1) (by omega) (by omega), xput_b]
    rw [m5] at R1
    rw [c_worth hB hk hl R1, xb_l, xup_k (b := 7) (by omega), xup_k (b := 7) (by omega), m5, d4, w64_i (by omega) (by omega)]; rfl
  · rw [xup_k (by omega), xup_k (by omega), xup_same]; exact xor32_r _ _
  · rw [xup_k (by omega), xup_k (by omega), xup_same, m5, bb_in (by have := ft.1; omega) (by omega), d2.2 t ht, pS_gs (w := w) hk]
  · rw [xup_k (by omega), xup_same]; exact (sf_gs (g := fun _ => 1) hk hf).symm
  · rw [xup_same]; exact (sf_gs hk hf).symm
  · rw [xup_k (by omega), xup_k (by omega), xup_k (by omega), m5]; exact d5
  · rw [xup_c (by omega), xup_c (by omega), xup_c (by omega), a3 396 (by omega)]; exact d6 i hi
  · rw [xup_k (by omega), xup_k (by omega), xup_k (by omega), m5]; exact s1.1
  · rw [xup_k (by omega), xup_k (by omega), xup_k (by omega), m5]; exact s1.2 t ht
  · rw [xup_k (by omega), xup_k (by omega), xup_k (by omega), m5]; exact s2
  · rw [xup_k (by omega), xup_k (by omega), xup_k (by omega), m5]; exact s3
theorem c_take {M : xM} {w : Nat → Int} {c : Nat → Nat} {q k : Nat} {f r : Nat → Bool} (hc : CD w c q) (hB : BW w c q) (hk : k < q) (hf : f k = false) (hD : DX w c q M (gs f k)) (hS : BX w c q M r) : ∃ M', fX2_takeOut 395 (102 + c k) M = some (.inl 0, M') ∧ DX w c q M' f ∧ BX w c q M' r ∧ fg M M' := by
  obtain ⟨d1, d2, d3, d4, d5, d6⟩ := hD
  obtain ⟨s1, s2, s3⟩ := hS
  obtain ⟨hq, hc2, -⟩ := id hc
  have hl := (hc2 k hk).1
  obtain ⟨ft, u0, a0⟩ := hB.1 k hk
  obtain ⟨f1, -, -, e1, e2, e3⟩ := ft.wA (DA w c (gs f k) q)
  obtain ⟨M1, a1, a2, a3⟩ := c_shf d1 (wA_q _ _) (t := c k) (by rw [wA_n (by omega)]; exact hl) f1 (w64 (-(M (102 + c k) 6))) (w64 (-(M (102 + c k) 7)))
  rw [d1.tun ft.1, d1.tam ft.1, wA_n (by have := ft.1; omega), wA_n (by have := ft.1; omega), w64_i (by omega) (by omega), w64_i (by omega) (by omega), dT_wA ft, wA_wA, wA_e (E := DA w c f q) (fun j => by rw [DA_gs hk hf j, dT_n]; omega)] at a2
  have m0 : M1 (102 + c k) 0 = (c k : Int) := by rw [a3 _ (by omega)]; exact d1.tN ft.1
  have m5 := a3 395 (by omega)
  have cb := Cf_b hq f
  have wb := Wf_b hB hq f
  have c1 : Cf q (gs f k) = Cf q f + 1 := sf_gs (g := fun _ => 1) hk hf
  have w1 : Wf w c q (gs f k) = Wf w c q f + gW w c k := sf_gs hk hf
  have gb' := hB.g hk
  have R1 : R (xup (xup M1 395 5 (xand (M1 395 5) (xxor (xshl 1 (c k : Int)) (-1)))) 395 6 (Cf q f)) (wA w (DA w c f q)) := a2.fr (fun x _ _ => by rw [xup_row (by omega), xup_row (by omega)])
  refine ⟨xup (xup (xup M1 395 5 (xand (M1 395 5) (xxor (xshl 1 (c k : Int)) (-1)))) 395 6 (Cf q f)) 395 7 (Wf w c q f), ?_, ⟨R1.fr (fun x _ _ => by rw [xup_row (by omega)]), ⟨?_, fun t ht => ?_⟩, ?_, ?_, ?_, fun i hi => ?_⟩, ⟨⟨?_, fun t ht => ?_⟩, ?_, ?_⟩, a3.g.x.x.x⟩
  · unfold fX2_takeOut
    rw [xr_395_0, show fX1_shift 3 (102 + c k) (w64 (-(M (102 + c k) 6))) (w64 (-(M (102 + c k) 7))) M = _ from a1, xb_l, m0, xput_b, xup_k (b := 6) (by omega), m5, d3, c1, w32_i (x := Cf q f + 1 - 1) (by omega) (by omega), show Cf q f + 1 - 1 = Cf q f by omega, xput_b]
    rw [m5] at R1
    rw [c_worth hB hk hl R1, xb_l, xup_k (b := 7) (by omega), xup_k (b := 7) (by omega), m5, d4, w1, show Wf w c q f + gW w c k - gW w c k = Wf w c q f by omega, w64_i (by omega) (by omega)]; rfl
  · rw [xup_k (by omega), xup_k (by omega), xup_same]; exact xand_r _ _
  · rw [xup_k (by omega), xup_k (by omega), xup_same, m5, bb_out (by have := ft.1; omega) (by omega), d2.2 t ht, pS_out hc hk hf]
  · rw [xup_k (by omega), xup_same]
  · rw [xup_same]
  · rw [xup_k (by omega), xup_k (by omega), xup_k (by omega), m5]; exact d5
  · rw [xup_c (by omega), xup_c (by omega), xup_c (by omega), a3 396 (by omega)]; exact d6 i hi
  · rw [xup_k (by omega), xup_k (by omega), xup_k (by omega), m5]; exact s1.1
  · rw [xup_k (by omega), xup_k (by omega), xup_k (by omega), m5]; exact s1.2 t ht
  · rw [xup_k (by omega), xup_k (by omega), xup_k (by omega), m5]; exact s2
  · rw [xup_k (by omega), xup_k (by omega), xup_k (by omega), m5]; exact s3
