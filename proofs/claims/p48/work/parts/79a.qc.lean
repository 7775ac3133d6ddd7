-- the cash's sum over a cycle
theorem cse_wA {w w' D : Nat → Int} (hD : ∀ n : Nat, w 1540 = (n : Int) → sm (fun a => D (30 + a)) n = 0) (h10 : w 1540 ≤ 10) (h : ∀ a, a < 10 → w' (30 + a) = wA w D (30 + a)) : CSE w w' := fun n hn => by
  rw [sm_eq (g := fun a => w64 (w (30 + a) + D (30 + a))) n (fun a ha => by rw [h a (by omega), wA_c (cel_t (by omega))]), w64_sm (fun a => w (30 + a) + D (30 + a)), sm_add (fun a => w (30 + a)) (fun a => D (30 + a)), hD n hn, Int.add_zero]
theorem dT_sum {w : Nat → Int} {t : Nat} (f : TF w t) {u v : Int} {n : Nat} (hd : dl w t < n) (hr : rc w t < n) (hn : n ≤ 10) : sm (fun a => dT w t u v (30 + a)) n = 0 := by
  obtain ⟨-, -, -, d1, r1, p1, -, -, -, -, -, ne⟩ := f
  rw [sm_eq (g := fun a => (if a = dl w t then v else 0) + (if a = rc w t then -v else 0)) n (fun a ha => ?_), sm_add (fun a => if a = dl w t then v else 0) (fun a => if a = rc w t then -v else 0), sm_one hd, sm_one hr]
  · omega
  · show dT w t u v (30 + a) = _
    unfold dT
    rw [if_neg (by omega), if_neg (by omega)]
    by_cases z : a = dl w t
    · rw [if_pos (by omega), if_pos z, if_neg (by omega), Int.add_zero]
    · rw [if_neg (by omega), if_neg z, Int.zero_add]
      by_cases z2 : a = rc w t
      · rw [if_pos (by omega), if_pos z2]
      · rw [if_neg (by omega), if_neg z2]
theorem cse_dT {w w' : Nat → Int} {t : Nat} {u v : Int} (f : TF w t) (ha : (dl w t : Int) < w 1540 ∧ (rc w t : Int) < w 1540) (h10 : w 1540 ≤ 10) (h : ∀ a, a < 10 → w' (30 + a) = wA w (dT w t u v) (30 + a)) : CSE w w' :=
  cse_wA (fun n hn => dT_sum f (by omega) (by omega) (by omega)) h10 h
