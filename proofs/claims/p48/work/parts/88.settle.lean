-- the best set is settled: what its shift keeps
theorem sf_0 {f : Nat → Bool} {g : Nat → Int} : ∀ n, (∀ k, k < n → f k = true → g k = 0) → sf f g n = 0
  | 0, _ => rfl
  | n + 1, h => by
    rw [sf_s, sf_0 n (fun k hk => h k (by omega))]
    cases q : f n
    · rfl
    · rw [if_t, h n (by omega) q]; rfl
theorem dT_h {w : Nat → Int} {t : Nat} (f : TF w t) {u m : Int} {a s : Nat} (ha : a < 10) (hs : s < 4) : dT w t u m (100 + 4 * a + s) = if s = pp w t then (if a = dl w t then -u else if a = rc w t then u else 0) else 0 := by
  obtain ⟨-, -, -, d1, r1, p1, -⟩ := f
  unfold dT
  by_cases z : s = pp w t
  · rw [if_pos z]
    by_cases y : a = dl w t
    · rw [if_pos (by omega), if_pos y]
    · rw [if_neg (by omega), if_neg y]
      by_cases x : a = rc w t
      · rw [if_pos (by omega), if_pos x]
      · rw [if_neg (by omega), if_neg x, if_neg (by omega), if_neg (by omega)]
  · rw [if_neg z, if_neg (by omega), if_neg (by omega), if_neg (by omega), if_neg (by omega)]
theorem dT_c {w : Nat → Int} {t : Nat} (f : TF w t) {u m : Int} {j : Nat} (hj : j < 50) (h30 : 30 ≤ j) : dT w t u m j = if j = 30 + dl w t then m else if j = 30 + rc w t then -m else 0 := by
  unfold dT
  rw [if_neg (by omega), if_neg (by omega)]
theorem sm_2 {f g : Nat → Int} {d r n : Nat} {u : Int} (hd : d < n) (hr : r < n) (hne : d ≠ r) (h : ∀ a, a < n → g a = f a + (if a = d then -u else if a = r then u else 0)) : sm g n = sm f n := by
  have s1 := sm_up (f := f) (g := fun a => if a = d then f d - u else f a) (b := d) n hd (fun a _ hn => if_neg hn)
  have s2 := sm_up (f := fun a => if a = d then f d - u else f a) (g := g) (b := r) n hr (fun a ha hn => by
    rw [h a ha, if_neg (c := a = r) hn]
    by_cases z : a = d
    · rw [if_pos z, if_pos z, z]; omega
    · rw [if_neg z, if_neg z]; omega)
  rw [s2, s1]
  show _ + ((if d = d then f d - u else f d) - f d) + (g r - (if r = d then f d - u else f r)) = _
  rw [if_pos rfl, if_neg (fun z => hne z.symm), h r hr, if_neg (fun z => hne z.symm), if_pos rfl]; omega
theorem DA_sum {w : Nat → Int} {c : Nat → Nat} {f : Nat → Bool} {s : Nat} (hs : s < 4) : ∀ n, (∀ k, k < n → TF w (c k)) → sm (fun a => w (100 + 4 * a + s) + DA w c f n (100 + 4 * a + s)) 10 = sm (fun a => w (100 + 4 * a + s)) 10
  | 0, _ => sm_eq 10 (fun a _ => by show w _ + 0 = _; omega)
  | n + 1, h => by
    rw [← DA_sum (f := f) hs n (fun k hk => h k (by omega))]
    have e : ∀ j, DA w c f (n + 1) j = DA w c f n j + (if f n then dT w (c n) (w (770 + c n)) (w (790 + c n)) j else 0) := fun j => rfl
    have ft := h n (by omega)
    cases q : f n
    · exact sm_eq 10 (fun a _ => by rw [e, q, if_f, Int.add_zero])
    · by_cases z : s = pp w (c n)
      · exact sm_2 (d := dl w (c n)) (r := rc w (c n)) (u := w (770 + c n)) ft.2.2.2.1 ft.2.2.2.2.1 ft.2.2.2.2.2.2.2.2.2.2.2 (fun a ha => by
          show w _ + DA w c f (n + 1) _ = w _ + DA w c f n _ + _
          rw [e, q, if_t, dT_h ft ha hs, if_pos z]; omega)
      · exact sm_eq 10 (fun a ha => by rw [e, q, if_t, dT_h ft ha hs, if_neg z]; omega)
theorem BW.ex {w : Nat → Int} {c : Nat → Nat} {q : Nat} (h : BW w c q) (hq : q ≤ 10) (f : Nat → Bool) {a s : Nat} (ha : a < 10) (hs : s < 4) : wA w (DA w c f q) (100 + 4 * a + s) = w (100 + 4 * a + s) + DA w c f q (100 + 4 * a + s) := by
  obtain ⟨b1, b2, b3⟩ := h
  have x1 := b3 a s ha hs
  have x3 := sf_abs (f := f) (g := fun k => dT w (c k) (w (770 + c k)) (w (790 + c k)) (100 + 4 * a + s)) (B := 59049000000) (by omega) q (fun k hk => by
    obtain ⟨ft, u, _⟩ := b1 k hk
    have := dT_b (w := w) (t := c k) (a := w (790 + c k)) u.1 (j := 100 + 4 * a + s) (by omega) ft
    show -59049000000 ≤ dT w (c k) (w (770 + c k)) (w (790 + c k)) (100 + 4 * a + s) ∧ _
    omega)
  rw [wA_c (cel_t (by omega))]
  exact w64_i (by unfold DA; omega) (by unfold DA; omega)
theorem fmA_k {x w : Nat → Int} {c : Nat → Nat} {f : Nat → Bool} : ∀ k i, fmA x w c f k i = true → ∀ u, i ≤ u → u < i + k → fmO x w c f u = true
  | 0, i, _, u, h1, h2 => by omega
  | k + 1, i, h, u, h1, h2 => by
    have h' : (fmO x w c f i && fmA x w c f k (i + 1)) = true := h
    rw [Bool.and_eq_true] at h'
    by_cases z : u = i
    · rw [z]; exact h'.1
    · exact fmA_k k (i + 1) h'.2 u (by omega) (by omega)
theorem sAll_s {w : Nat → Int} {a : Nat} : ∀ k i, sAll w a k i = true → ∀ s, i ≤ s → s < i + k → 0 ≤ sFree w a s
  | 0, i, _, s, h1, h2 => by omega
  | k + 1, i, h, s, h1, h2 => by
    have h' : (decide (0 ≤ sFree w a i) && sAll w a k (i + 1)) = true := h
    rw [Bool.and_eq_true, decide_eq_true_eq] at h'
    by_cases z : s = i
    · rw [z]; exact h'.1
    · exact sAll_s k (i + 1) h'.2 s (by omega) (by omega)
/-- a sound account has no less than what is blocked -/
theorem snd_b {w : Nat → Int} {a s : Nat} (h : sSnd w a = true) (hb : hb w a) (hs4 : s < 4) (hs : (s : Int) < w 1541) : w (140 + 4 * a + s) ≤ w (100 + 4 * a + s) := by
  unfold sSnd at h
  rw [Bool.and_eq_true] at h
  have := sAll_s _ 0 h.2 s (by omega) (by omega)
  rw [hb_free hb hs4] at this; omega
theorem Inv0.setl {w : Nat → Int} (h0 : Inv0 w) {c : Nat → Nat} {q : Nat} {f : Nat → Bool} (hc : CD w c q) (hB : BW w c q) (hm : f = e0 ∨ may w c q f = true) : Inv0 (wA w (DA w c f q)) := by
  have hC := h0.1
  have hH := h0.2.2.2.1
  have pt : ∀ k, k < q → (dl w (c k) : Int) < w 1540 ∧ (rc w (c k) : Int) < w 1540 ∧ (pp w (c k) : Int) < w 1541 := fun k hk => h0.dlA (hc.2.1 k hk).1
  have party : ∀ k, k < q → f k = true → sSnd (wA w (DA w c f q)) (dl w (c k)) = true ∧ sSnd (wA w (DA w c f q)) (rc w (c k)) = true := fun k hk hf => by
    rcases hm with z | z
    · rw [z] at hf; cases hf
    · unfold may at z
      rw [Bool.and_eq_true] at z
      have := fmA_k q 0 z.2 k (by omega) (by omega)
      unfold fmO at this
      rw [hf, Bool.not_true, Bool.false_or, Bool.and_eq_true] at this
      exact this
  have zero : ∀ a s : Nat, a < 10 → s < 4 → (∀ k, k < q → f k = true → s = pp w (c k) → a ≠ dl w (c k) ∧ a ≠ rc w (c k)) → DA w c f q (100 + 4 * a + s) = 0 := fun a s ha hs h => sf_0 q (fun k hk hf => by
    rw [dT_h (hB.1 k hk).1 ha hs]
    by_cases z : s = pp w (c k)
    · rw [if_pos z, if_neg (h k hk hf z).1, if_neg (h k hk hf z).2]
    · rw [if_neg z])
  have i1 : Inv0 (fun j => if 100 ≤ j ∧ j < 140 then wA w (DA w c f q) j else w j) := by
    have ev : ∀ a s : Nat, a < 10 → s < 4 → (fun j => if 100 ≤ j ∧ j < 140 then wA w (DA w c f q) j else w j) (100 + 4 * a + s) = w (100 + 4 * a + s) + DA w c f q (100 + 4 * a + s) := fun a s ha hs => by
      show (if 100 ≤ 100 + 4 * a + s ∧ 100 + 4 * a + s < 140 then wA w (DA w c f q) (100 + 4 * a + s) else _) = _
      rw [if_pos (by omega)]; exact hB.ex hc.1 f ha hs
    refine h0.hld (fun j hj => if_neg (by omega)) (fun a s ha hs => ?_) (fun s hs => ?_)
    · rw [show (if 100 ≤ 100 + 4 * a + s ∧ 100 + 4 * a + s < 140 then wA w (DA w c f q) (100 + 4 * a + s) else w (100 + 4 * a + s)) = _ from ev a s ha hs]
      have k := hH.1 a s ha hs
      refine ⟨?_, fun z => ?_, fun z => ?_⟩
      · by_cases y : ∃ k, k < q ∧ f k = true ∧ s = pp w (c k) ∧ (a = dl w (c k) ∨ a = rc w (c k))
        · obtain ⟨k, k1, k2, k3, k4⟩ := y
          have p := party k k1 k2
          have p' : sSnd (wA w (DA w c f q)) a = true := by
            rcases k4 with x | x
            · rw [x]; exact p.1
            · rw [x]; exact p.2
          have := snd_b p' (hB.hb hc.1 f ha) hs (by rw [wA_n (by omega)]; have := (pt k k1).2.2; omega)
          rw [hB.ex hc.1 f ha hs, wA_n (by omega)] at this; exact this
        · rw [zero a s ha hs (fun k hk hf hp => ⟨fun z => y ⟨k, hk, hf, hp, Or.inl z⟩, fun z => y ⟨k, hk, hf, hp, Or.inr z⟩⟩)]; omega
      · rw [zero a s ha hs (fun k hk hf hp => by have := pt k hk; omega)]; have := k.2.2.1 z; omega
      · rw [zero a s ha hs (fun k hk hf hp => by have := pt k hk; omega)]; have := k.2.2.2 z; omega
    · rw [← DA_sum (f := f) hs q (fun k hk => (hB.1 k hk).1)]
      exact sm_eq 10 (fun a ha => ev a s ha hs)
  refine i1.pm (fun j hj => ?_)
  have := pm_t hj
  by_cases z : 100 ≤ j ∧ j < 140
  · exact (if_pos z).symm
  · rw [wA_n (by omega)]; exact (if_neg z).symm
theorem IM.setl {N : Int} {w : Nat → Int} (hM : IM N w) (hN0 : 0 ≤ N) (hN : N ≤ 4000000000000000000) {c : Nat → Nat} {q : Nat} {f : Nat → Bool} (hB : BW w c q) (hq : q ≤ 10) : IM (N + 1000000000) (wA w (DA w c f q)) := fun a ha => by
  have k := hM a ha
  have x := sf_abs (f := f) (g := fun k => dT w (c k) (w (770 + c k)) (w (790 + c k)) (30 + a)) (B := 100000000) (by omega) q (fun k hk => by
    obtain ⟨ft, _, u⟩ := hB.1 k hk
    show -100000000 ≤ dT w (c k) (w (770 + c k)) (w (790 + c k)) (30 + a) ∧ _
    rw [dT_c ft (by omega) (by omega)]
    split
    · omega
    · split <;> omega)
  have y : DA w c f q (40 + a) = 0 := sf_0 q (fun k hk _ => by
    have ft := (hB.1 k hk).1
    have := ft.2.2.2.1
    have := ft.2.2.2.2.1
    rw [dT_c ft (by omega) (by omega), if_neg (by omega), if_neg (by omega)])
  rw [wA_c (cel_t (by omega)), wA_c (cel_t (by omega)), wA_n (by omega), y]
  unfold DA
  rw [w64_i (x := w (30 + a) + _) (by omega) (by omega), w64_i (by omega) (by omega)]
  omega
