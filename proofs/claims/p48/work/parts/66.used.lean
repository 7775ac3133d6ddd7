-- used: quotients of positive whole numbers
theorem fb_t : Jvm.FP.Core.b64.tails = 4503599627370496 := by decide
theorem fb_e : Jvm.FP.Core.b64.exps = 2048 := by decide
theorem fb_p : 2 ^ Jvm.FP.Core.b64.p = 9007199254740992 := by decide
theorem fb_qn : Jvm.FP.Core.b64.qmin = -1074 := by decide
theorem fb_qx : Jvm.FP.Core.b64.qmax = 971 := by decide
theorem fb_asm (e t : Nat) : Jvm.FP.Core.assemble Jvm.FP.Core.b64 false e t = e * 4503599627370496 + t := by
  unfold Jvm.FP.Core.assemble; rw [fb_t, fb_e]; simp
theorem fb_enc {c : Nat} {q : Int} (hc : c < 9007199254740992) (h1 : -1074 ≤ q) (h2 : q ≤ 971) : Jvm.FP.Core.encode Jvm.FP.Core.b64 (.fin false c q) = if c < 4503599627370496 then c else ((q + 1074).toNat + 1) * 4503599627370496 + (c - 4503599627370496) := by
  show (if c < Jvm.FP.Core.b64.tails then Jvm.FP.Core.assemble Jvm.FP.Core.b64 false 0 c else Jvm.FP.Core.assemble Jvm.FP.Core.b64 false ((q - Jvm.FP.Core.b64.qmin).toNat + 1) (c - Jvm.FP.Core.b64.tails)) = _
  rw [fb_asm, fb_asm, fb_t, fb_qn, Nat.zero_mul, Nat.zero_add, show q - -1074 = q + 1074 by omega]
theorem fb_encI : Jvm.FP.Core.encode Jvm.FP.Core.b64 (.inf false) = 9218868437227405312 := by decide +kernel
theorem fb_bnd {c : Nat} {q : Int} (hc : c < 9007199254740992) (h1 : -1074 ≤ q) : Jvm.FP.Core.encode Jvm.FP.Core.b64 (Jvm.FP.Core.bound Jvm.FP.Core.b64 false c q) ≤ 9218868437227405312 := by
  unfold Jvm.FP.Core.bound
  rw [fb_qx]
  by_cases h2 : q ≤ 971
  · rw [if_pos h2, fb_enc hc h1 h2]; split <;> omega
  · rw [if_neg h2, fb_encI]; exact Nat.le_refl _
theorem fb_set {c : Nat} {q : Int} (h1 : -1074 ≤ q) : Jvm.FP.Core.encode Jvm.FP.Core.b64 (Jvm.FP.Core.settle Jvm.FP.Core.b64 false c q) ≤ 9218868437227405312 := by
  unfold Jvm.FP.Core.settle
  rw [fb_p, fb_t]
  by_cases h2 : c < 9007199254740992
  · rw [if_pos h2]; exact fb_bnd h2 h1
  · rw [if_neg h2]; exact fb_bnd (by omega) (by omega)
theorem fb_rr (A B : Nat) (e : Int) : Jvm.FP.Core.encode Jvm.FP.Core.b64 (Jvm.FP.Core.roundRatio Jvm.FP.Core.b64 false A B e) ≤ 9218868437227405312 := by
  unfold Jvm.FP.Core.roundRatio
  by_cases h : A = 0
  · rw [if_pos h, fb_qn, fb_enc (by omega) (by omega) (by omega)]; decide
  · rw [if_neg h]
    unfold Jvm.FP.Core.roundAt
    refine fb_set ?_
    unfold Jvm.FP.Core.quantum
    rw [fb_qn]; omega
theorem fb_dec {c : Nat} {q : Int} (hc : c < 9007199254740992) (h0 : 1 ≤ c) (h1 : -1074 ≤ q) (h2 : q ≤ 900) : ∃ c2 q2, 1 ≤ c2 ∧ Jvm.FP.Core.decode Jvm.FP.Core.b64 (Jvm.FP.Core.encode Jvm.FP.Core.b64 (.fin false c q)) = .fin false c2 q2 ∧ Jvm.FP.Core.encode Jvm.FP.Core.b64 (.fin false c q) < 18446744073709551616 := by
  rw [fb_enc hc h1 (by omega)]
  by_cases h : c < 4503599627370496
  · rw [if_pos h]
    refine ⟨c, -1074, h0, ?_, by omega⟩
    unfold Jvm.FP.Core.decode Jvm.FP.Core.fieldE Jvm.FP.Core.fieldT Jvm.FP.Core.fieldS
    rw [fb_t, fb_e, fb_qn, show c / 4503599627370496 = 0 by omega, if_neg (by omega), if_pos (by omega), show c % 4503599627370496 = c by omega]; rfl
  · rw [if_neg h]
    have he : ∃ e : Nat, (q + 1074).toNat + 1 = e ∧ 1 ≤ e ∧ e ≤ 2000 := ⟨_, rfl, by omega, by omega⟩
    obtain ⟨e, he1, he2, he3⟩ := he
    rw [he1]
    have d1 : (e * 4503599627370496 + (c - 4503599627370496)) / 4503599627370496 = e := by omega
    have d2 : (e * 4503599627370496 + (c - 4503599627370496)) % 4503599627370496 = c - 4503599627370496 := by omega
    refine ⟨4503599627370496 + (c - 4503599627370496), -1074 + ((e : Int) - 1), by omega, ?_, by omega⟩
    unfold Jvm.FP.Core.decode Jvm.FP.Core.fieldE Jvm.FP.Core.fieldT Jvm.FP.Core.fieldS
    rw [fb_t, fb_e, fb_qn, d1, d2, show e % 2048 = e by omega, if_neg (by omega), if_neg (by omega), show e / 2048 = 0 by omega]; rfl
theorem fb_near (A B : Nat) : A / B ≤ Jvm.FP.Core.nearest A B := by
  unfold Jvm.FP.Core.nearest
  split
  · exact Nat.le_refl _
  · split <;> omega
/-- a positive long as a double -/
theorem fb_l2d {x : Int} (h0 : 1 ≤ x) (h1 : x < 9223372036854775808) : ∃ c q, 1 ≤ c ∧ Jvm.FP.Core.decode Jvm.FP.Core.b64 (xl2d x).toNat = .fin false c q := by
  have e1 : (Int64.ofInt x).toInt = x := w64_i (by omega) h1
  obtain ⟨n, hn⟩ := ex_nat (show 0 ≤ x by omega)
  have hn0 : n ≠ 0 := by omega
  have hlg : n.log2 < 63 := (Nat.log2_lt hn0).2 (by omega)
  have hle : 2 ^ n.log2 ≤ n := Nat.log2_self_le hn0
  have hq : Jvm.FP.Core.quantum Jvm.FP.Core.b64 n 1 0 = (n.log2 : Int) - 52 := by
    unfold Jvm.FP.Core.quantum Jvm.FP.Core.leading
    have l1 : (1 : Nat).log2 = 0 := by decide
    rw [fb_qn, l1]
    have : (if 1 * 2 ^ ((n.log2 : Int) - ((0 : Nat) : Int)).toNat ≤ n * 2 ^ (-((n.log2 : Int) - ((0 : Nat) : Int))).toNat then (n.log2 : Int) - ((0 : Nat) : Int) else (n.log2 : Int) - ((0 : Nat) : Int) - 1) = (n.log2 : Int) := by
      rw [if_pos]
      · omega
      · rw [show ((n.log2 : Int) - ((0 : Nat) : Int)).toNat = n.log2 by omega, show (-((n.log2 : Int) - ((0 : Nat) : Int))).toNat = 0 by omega, Nat.one_mul, Nat.pow_zero, Nat.mul_one]; exact hle
    show max (-1074) ((if 1 * 2 ^ ((n.log2 : Int) - ((0 : Nat) : Int)).toNat ≤ n * 2 ^ (-((n.log2 : Int) - ((0 : Nat) : Int))).toNat then (n.log2 : Int) - ((0 : Nat) : Int) else (n.log2 : Int) - ((0 : Nat) : Int) - 1) + 0 - ((Jvm.FP.Core.b64.p : Int) - 1)) = _
    rw [this, show Jvm.FP.Core.b64.p = 53 from rfl]; omega
  have hr : Jvm.FP.Core.round Jvm.FP.Core.b64 (Jvm.FP.Core.ofInt x) = Jvm.FP.Core.settle Jvm.FP.Core.b64 false (Jvm.FP.Core.nearest (Jvm.FP.Core.unitsNum n 0 ((n.log2 : Int) - 52)) (Jvm.FP.Core.unitsDen 1 0 ((n.log2 : Int) - 52))) ((n.log2 : Int) - 52) := by
    unfold Jvm.FP.Core.ofInt
    show Jvm.FP.Core.roundRatio Jvm.FP.Core.b64 (decide (x < 0)) x.natAbs 1 0 = _
    rw [decide_eq_false (by omega), show x.natAbs = n by omega]
    unfold Jvm.FP.Core.roundRatio Jvm.FP.Core.roundAt
    rw [if_neg hn0, hq]
  have hc1 : 1 ≤ Jvm.FP.Core.nearest (Jvm.FP.Core.unitsNum n 0 ((n.log2 : Int) - 52)) (Jvm.FP.Core.unitsDen 1 0 ((n.log2 : Int) - 52)) := by
    refine Nat.le_trans ?_ (fb_near _ _)
    unfold Jvm.FP.Core.unitsNum Jvm.FP.Core.unitsDen
    rw [Nat.one_mul]
    by_cases z : n.log2 ≤ 52
    · rw [show ((n.log2 : Int) - 52 - 0).toNat = 0 by omega, Nat.pow_zero, Nat.div_one]
      exact Nat.mul_pos (by omega) (Nat.two_pow_pos _)
    · rw [show (0 - ((n.log2 : Int) - 52)).toNat = 0 by omega, show ((n.log2 : Int) - 52 - 0).toNat = n.log2 - 52 by omega, Nat.pow_zero, Nat.mul_one]
      exact (Nat.one_le_div_iff (Nat.two_pow_pos _)).2 (Nat.le_trans (Nat.pow_le_pow_right (by omega) (by omega)) hle)
  generalize Jvm.FP.Core.nearest (Jvm.FP.Core.unitsNum n 0 ((n.log2 : Int) - 52)) (Jvm.FP.Core.unitsDen 1 0 ((n.log2 : Int) - 52)) = c at hr hc1
  have hf : ∃ c2 q2, 1 ≤ c2 ∧ c2 < 9007199254740992 ∧ -1074 ≤ q2 ∧ q2 ≤ 900 ∧ Jvm.FP.Core.settle Jvm.FP.Core.b64 false c ((n.log2 : Int) - 52) = .fin false c2 q2 := by
    unfold Jvm.FP.Core.settle Jvm.FP.Core.bound
    rw [fb_p, fb_t, fb_qx]
    by_cases z : c < 9007199254740992
    · exact ⟨c, (n.log2 : Int) - 52, hc1, z, by omega, by omega, by rw [if_pos z, if_pos (by omega)]⟩
    · exact ⟨4503599627370496, (n.log2 : Int) - 52 + 1, by omega, by omega, by omega, by omega, by rw [if_neg z, if_pos (by omega)]⟩
  obtain ⟨c2, q2, k1, k2, k3, k4, k5⟩ := hf
  obtain ⟨c3, q3, j1, j2, j3⟩ := fb_dec k2 k1 k3 k4
  refine ⟨c3, q3, j1, ?_⟩
  unfold xl2d
  show Jvm.FP.Core.decode Jvm.FP.Core.b64 (UInt64.ofNat (Jvm.FP.Core.encode Jvm.FP.Core.b64 (Jvm.FP.Core.round Jvm.FP.Core.b64 (Jvm.FP.Core.ofInt (Int64.ofInt x).toInt)))).toNat = _
  rw [e1, hr, k5, UInt64.toNat_ofNat_of_lt' j3]
  exact j2
theorem fb_nn {N : Nat} (h : N ≤ 9218868437227405312) : (UInt64.ofNat N) &&& 0x7fffffffffffffff ≤ 0x7ff0000000000000 := by
  rw [UInt64.le_iff_toNat_le, UInt64.toNat_and, UInt64.toNat_ofNat_of_lt' (show N < 18446744073709551616 by omega)]
  refine Nat.le_trans Nat.and_le_left ?_
  exact h
/-- above 0 by above 0 -/
theorem fb_div {x y : Int} (h0 : 1 ≤ x) (h1 : x < 9223372036854775808) (h2 : 1 ≤ y) (h3 : y < 9223372036854775808) (F : xO) : xnn (FP.ddiv (xl2d x) (xl2d y)) F = F := by
  obtain ⟨c, q, hc, hd⟩ := fb_l2d h0 h1
  obtain ⟨c2, q2, hc2, hd2⟩ := fb_l2d h2 h3
  have e : FP.ddiv (xl2d x) (xl2d y) = UInt64.ofNat (Jvm.FP.Core.encode Jvm.FP.Core.b64 (Jvm.FP.Core.roundRatio Jvm.FP.Core.b64 false c c2 (q - q2))) := by
    show UInt64.ofNat (Jvm.FP.Core.encode Jvm.FP.Core.b64 (Jvm.FP.Core.quotient Jvm.FP.Core.b64 (Jvm.FP.Core.decode Jvm.FP.Core.b64 (xl2d x).toNat) (Jvm.FP.Core.decode Jvm.FP.Core.b64 (xl2d y).toNat))) = _
    rw [hd, hd2]
    show UInt64.ofNat (Jvm.FP.Core.encode Jvm.FP.Core.b64 (if c2 = 0 then (if c = 0 then .nan else .inf (false != false)) else Jvm.FP.Core.roundRatio Jvm.FP.Core.b64 (false != false) c c2 (q - q2))) = _
    rw [if_neg (by omega)]; rfl
  rw [e]
  exact if_pos (fb_nn (fb_rr _ _ _))
theorem fb_inf : FP.dmul (9094988921128908188 : UInt64) (9094988921128908188 : UInt64) = 9218868437227405312 := by decide +kernel
theorem fb_z : Jvm.FP.Core.decode Jvm.FP.Core.b64 (xl2d 0).toNat = .fin false 0 (-1074) := by decide +kernel
/-- above 0 by 0 -/
theorem fb_div0 {x : Int} (h0 : 1 ≤ x) (h1 : x < 9223372036854775808) : FP.ddiv (xl2d x) (xl2d 0) = 9218868437227405312 := by
  obtain ⟨c, q, hc, hd⟩ := fb_l2d h0 h1
  show UInt64.ofNat (Jvm.FP.Core.encode Jvm.FP.Core.b64 (Jvm.FP.Core.quotient Jvm.FP.Core.b64 (Jvm.FP.Core.decode Jvm.FP.Core.b64 (xl2d x).toNat) (Jvm.FP.Core.decode Jvm.FP.Core.b64 (xl2d 0).toNat))) = _
  rw [hd, fb_z]
  show UInt64.ofNat (Jvm.FP.Core.encode Jvm.FP.Core.b64 (if (0 : Nat) = 0 then (if c = 0 then .nan else .inf (false != false)) else Jvm.FP.Core.roundRatio Jvm.FP.Core.b64 (false != false) c 0 (q - -1074))) = _
  rw [if_pos rfl, if_neg (by omega), show (false != false) = false from rfl, fb_encI]; rfl
theorem fb_xinf (F : xO) : xnn (9218868437227405312 : UInt64) F = F := by
  unfold xnn; exact if_pos (by decide)
def sUsd (w : Nat → Int) (a : Nat) : UInt64 := if sFC w a < 0 then FP.ddiv (xl2d (-(sFC w a))) (xl2d (sLim w a)) else 0
theorem sLim_r {w : Nat → Int} (hC : IC w) (hA : IA w) (hS : IS w) (hH : IH w) {a : Nat} (ha : a < 10) : 0 ≤ sLim w a ∧ sLim w a < 9223372036854775808 := by
  have hn := hC.2.1
  have p := sWor_pos (Inv0.hb hS hH ha) (w 1541).toNat 0 0 (by omega) (hH.all hS ha _ 0 (by omega)) (by omega) (by omega)
  have l := (hA a ha).2.2.2.2.1
  unfold sLim
  rw [w64_i (by omega) (by omega)]; omega
theorem sFC_r {w : Nat → Int} {N : Int} (hM : IM N w) (hN : N ≤ 4000000000000000000) {a : Nat} (ha : a < 10) : -8000000000000000000 ≤ sFC w a ∧ sFC w a ≤ 8000000000000000000 := by
  have m := hM a ha
  unfold sFC
  rw [w64_i (by omega) (by omega)]; omega
