/-- doubles, the script, the law's own calls -/
def xnn (r : UInt64) (F : xO) : xO := if r &&& 0x7fffffffffffffff ≤ 0x7ff0000000000000 then F else none
def xdcl (x y : UInt64) : Int := (Op.cmpValue (FP.dcmp x y) .l).toInt
theorem xdcl_r (x y : UInt64) : R32 (xdcl x y) := ⟨Int32.le_toInt _, Int32.toInt_lt _⟩
def xl2d (z : Int) : UInt64 := FP.l2d (Int64.ofInt z)
theorem xsx_r (x : Int32) : R32 x.toInt := ⟨Int32.le_toInt _, Int32.toInt_lt _⟩
theorem xsl_r {sl : Nat} (h : sl ≤ 2147483647) : R32 (sl : Int) := by omega
def xsw (x lo hi : Int) (D : xO) (Fs : List xO) : xO := if x < lo ∨ hi < x then D else Fs.getD (x - lo).toNat none
section XGD
variable {l : Launch} {G : xG} {u : xU} {d t kc ks kc0 ks0 pc pc' : Nat} {ls : List (Option Value)} {st : List Value} {M : xM} {F : xO}
theorem xg_dconst0 (hd : decode u.2.1 pc = .ok (.dconst 0, 1)) (hp : pc' = pc + 1) (K : Gv l G u d t kc ks pc' ls (.double 0 :: st) M F) : Gv l G u d t kc ks pc ls st M F := by
  subst hp; exact fun r h => xv_dconst0 hd (K r h)
theorem xg_ldc2d {index : Nat} {v : UInt64} (hw : Cond.constantDouble u.1 index v ∈ xw) (hd : decode u.2.1 pc = .ok (.ldc2_w index, 3)) (hp : pc' = pc + 3) (K : Gv l G u d t kc ks pc' ls (.double v :: st) M F) : Gv l G u d t kc ks pc ls st M F := by
  subst hp; exact fun r h => xv_ldc2d hd hw (K r h)
theorem xg_dload_n {j : Fin 4} {x : UInt64} (hd : decode u.2.1 pc = .ok (.dload_n j, 1)) (hp : pc' = pc + 1) (hl : ls[(j : Nat)]? = some (some (.double x))) (K : Gv l G u d t kc ks pc' ls (.double x :: st) M F) : Gv l G u d t kc ks pc ls st M F := by
  subst hp; exact fun r h => xv_dload_n hd hl (K r h)
theorem xg_dload {j : Nat} {x : UInt64} (hd : decode u.2.1 pc = .ok (.dload j, 2)) (hp : pc' = pc + 2) (hl : ls[j]? = some (some (.double x))) (K : Gv l G u d t kc ks pc' ls (.double x :: st) M F) : Gv l G u d t kc ks pc ls st M F := by
  subst hp; exact fun r h => xv_dload hd hl (K r h)
theorem xg_dstore {j : Nat} {x : UInt64} {ls2 : List (Option Value)} (hd : decode u.2.1 pc = .ok (.dstore j, 2)) (hp : pc' = pc + 2) (hn : j + 1 < u.2.2.1) (hl : xs2 j (.double x) ls = ls2) (K : Gv l G u d t kc ks pc' ls2 st M F) : Gv l G u d t kc ks pc ls (.double x :: st) M F := by
  subst hp; exact fun r h => xv_dstore hd hn hl (K r h)
theorem xg_l2d {x : Int} (hd : decode u.2.1 pc = .ok (.l2d, 1)) (hp : pc' = pc + 1) (K : Gv l G u d t kc ks pc' ls (.double (xl2d x) :: st) M F) : Gv l G u d t kc ks pc ls (jv x :: st) M F := by
  subst hp; exact fun r h => xv_l2d0 hd (K r h)
theorem xg_dmul {x y : UInt64} (hd : decode u.2.1 pc = .ok (.dmul, 1)) (hp : pc' = pc + 1) (K : Gv l G u d t kc ks pc' ls (.double (FP.dmul x y) :: st) M F) : Gv l G u d t kc ks pc ls (.double y :: .double x :: st) M (xnn (FP.dmul x y) F) := by
  subst hp; intro r h
  unfold xnn at h
  by_cases q : FP.dmul x y &&& 0x7fffffffffffffff ≤ 0x7ff0000000000000
  · rw [if_pos q] at h; exact xv_dmul hd q (K r h)
  · rw [if_neg q] at h; cases h
theorem xg_ddiv {x y : UInt64} (hd : decode u.2.1 pc = .ok (.ddiv, 1)) (hp : pc' = pc + 1) (K : Gv l G u d t kc ks pc' ls (.double (FP.ddiv x y) :: st) M F) : Gv l G u d t kc ks pc ls (.double y :: .double x :: st) M (xnn (FP.ddiv x y) F) := by
  subst hp; intro r h
  unfold xnn at h
  by_cases q : FP.ddiv x y &&& 0x7fffffffffffffff ≤ 0x7ff0000000000000
  · rw [if_pos q] at h; exact xv_ddiv hd q (K r h)
  · rw [if_neg q] at h; cases h
theorem xg_dcmp {x y : UInt64} (hd : decode u.2.1 pc = .ok (.dcmp .l, 1)) (hp : pc' = pc + 1) (K : Gv l G u d t kc ks pc' ls (iv (xdcl x y) :: st) M F) : Gv l G u d t kc ks pc ls (.double y :: .double x :: st) M F := by
  subst hp; exact fun r h => xv_dcmp hd (by have K := K r h; rw [show (iv (xdcl x y) : Value) = .int (Op.cmpValue (FP.dcmp x y) .l) from iv_toInt _] at K; exact K)
theorem xdn_r (x : UInt64) : RD (x.toNat : Int) := ⟨Int.natCast_nonneg _, by have := x.toNat_lt; omega⟩
theorem xg_dret {x : UInt64} (hr0 : u.2.2.2.1 = some .double) (hd : decode u.2.1 pc = .ok (.dreturn, 1)) (ht : t = 4) (hM : xcan M) : Gv l G u d t kc ks pc ls [.double x] M (xret (x.toNat : Int) M) := by
  subst ht; intro r h; cases h
  exact xv_dret hr0 hd ⟨(x.toNat : Int), rfl, by show some (Value.double x) = some (.double (UInt64.ofNat ((x.toNat : Int)).toNat)); rw [Int.toNat_natCast, UInt64.ofNat_toNat], xdn_r x, Or.inr ⟨rfl, hM⟩⟩
theorem xg_slen {sl : Nat} {sx : Nat → Int32} (hS : G.2.2.2.1.2 = (sl, sx)) (hd : decode u.2.1 pc = .ok (.arraylength, 1)) (hp : pc' = pc + 1) (K : Gv l G u d t kc ks pc' ls (iv (sl : Int) :: st) M F) : Gv l G u d t kc ks pc ls (.ref xSCR :: st) M F := by
  subst hp; intro r h
  refine xv_slen hd ?_
  rw [show G.2.2.2.1.2.1 = sl by rw [hS]]
  exact K r h
theorem xg_sld {sl : Nat} {sx : Nat → Int32} {z : Int} (hS : G.2.2.2.1.2 = (sl, sx)) (hsl : sl ≤ 2147483647) (hd : decode u.2.1 pc = .ok (.iaload, 1)) (hp : pc' = pc + 1) (K : Gv l G u d t kc ks pc' ls (iv (sx z.toNat).toInt :: st) M F) : Gv l G u d t kc ks pc ls (iv z :: .ref xSCR :: st) M (xix z sl F) := by
  subst hp; intro r h
  unfold xix at h
  have e1 : G.2.2.2.1.2.1 = sl := by rw [hS]
  have e2 : G.2.2.2.1.2.2 = sx := by rw [hS]
  by_cases q : 0 ≤ z ∧ z < (sl : Int)
  · rw [if_pos q] at h
    refine xv_sld (k := z.toNat) (Int.toNat_of_nonneg q.1).symm (by rw [e1]; omega) (by rw [e1]; omega) hd ?_
    rw [e2]; exact K r h
  · rw [if_neg q] at h; cases h
theorem xg_tab {dflt lo hi : Int} {offs : Array Int} {len : Nat} {x : Int} {tgt : Nat} {A : xO} {Fs : List xO} (hd : decode u.2.1 pc = .ok (.tableswitch dflt lo hi offs, len)) (hx : R32 x) (ht : (pc : Int) + dflt = (tgt : Int)) (KD : Gv l G u d t kc ks tgt ls st M A)
    (KS : ∀ i : Nat, (i : Int) ≤ hi - lo → ∃ (off : Int) (tg : Nat), offs[i]? = some off ∧ (pc : Int) + off = (tg : Int) ∧ Gv l G u d t kc ks tg ls st M (Fs.getD i none)) : Gv l G u d t kc ks pc ls (iv x :: st) M (xsw x lo hi A Fs) := by
  intro r h
  have e : (Int32.ofInt x).toInt = x := w32_of hx.1 hx.2
  unfold xsw at h
  by_cases q : x < lo ∨ hi < x
  · rw [if_pos q] at h
    exact xv_tabOut hd (by rw [e]; exact q) ht (KD r h)
  · rw [if_neg q] at h
    obtain ⟨off, tg, h1, h2, h3⟩ := KS (x - lo).toNat (by omega)
    exact xv_tabIn hd (by rw [e]; omega) (by rw [e]; omega) (by rw [e]; exact h1) h2 (h3 r h)
theorem xg_callVC_D {n d' nL' kc' ks' idx : Nat} {y : MethodName} {cc' : ByteArray} {ret' : Option FieldType} {vs st0 : List Value} {Fc : xO} {k9 : Int → xM → xO} {b ci N : Nat} {C : String} {T : u_T} {kx9 : Nat → xM → xO} (hM : Cm l G y cc' nL' ret' d' 4 kc' ks' (.ref b :: vs) M Fc) (B : xYV y cc' nL' ret' n) (hC : xCl ci C T N) (hb0 : xOb ci b) (hyc : y.cls = C) (w1 : Cond.methodLink u.1 idx y ∈ xw) (hn : vs.length = n) (hdl : d' < d) (hW : (st.map Value.category).sum ≤ 8) (hd : decode u.2.1 pc = .ok (.invokevirtual idx, 3)) (hp : pc' = pc + 3) (hs0 : st0 = vs.reverse ++ .ref b :: st) (hkc : kc + kc' ≤ kc0) (hks : ks + ks' ≤ ks0) (K : ∀ z M', RD z → xcan M' → Gv l G u d t kc ks pc' ls (.double (UInt64.ofNat z.toNat) :: st) M' (k9 z M')) (KX : ∀ e M', e < 3 → xcan M' → Gx l G u d t kc ks pc ls st M' e (kx9 e M')) : Gv l G u d t kc0 ks0 pc ls st0 M (xbc Fc k9 kx9) := by
  subst hp; exact xg_callVC (by decide) hM B hC hb0 hyc w1 hn hdl hW hd hs0 hkc hks (fun z M' hz hM' => K z M' hz hM') KX
theorem xg_callWC {n d' nL' kc' ks' t' idx : Nat} {y : MethodName} {cc' : ByteArray} {ret' : Option FieldType} {vs st0 : List Value} {Fc : xO} {k9 : Int → xM → xO} {hh : List (Nat × Nat × Nat × Nat)} (h5 : t' ≠ 5) (hM : CmW l G y cc' nL' ret' hh d' t' kc' ks' vs M Fc) (B : xYW y cc' nL' ret' hh n) (w1 : Cond.methodLink u.1 idx y ∈ xw) (hn : vs.length = n) (hdl : d' < d)
    (hW : (st.map Value.category).sum ≤ 8) (hd : decode u.2.1 pc = .ok (.invokestatic idx, 3)) (hs0 : st0 = vs.reverse ++ st) (hkc : kc + kc' ≤ kc0) (hks : ks + ks' ≤ ks0)
    (K : ∀ z M', xRt t' z → xcan M' → Gv l G u d t kc ks (pc + 3) ls ((xvo t' z).toList ++ st) M' (k9 z M')) : Gv l G u d t kc0 ks0 pc ls st0 M (xbc Fc k9 (fun _ _ => none)) := by
  intro r h
  cases hF : Fc with
  | none => rw [hF] at h; cases h
  | some r0 =>
    obtain ⟨r1, M1⟩ := r0
    rw [hF] at h
    refine xv_callW (hM _ hF) w1 B.1 B.2.1 B.2.2.1 B.2.2.2.1 hn hdl B.2.2.2.2 hW hd hs0 hkc hks (xkp_of h5) ?_ ?_
    · rintro v σ' ⟨z, e1, rfl, hz, q5⟩ -
      obtain ⟨rfl, hM1⟩ := q5.resolve_left h5
      dsimp only at e1; subst e1
      exact K z M1 hz hM1 r h
    · rintro k σ' ⟨e1, q5⟩ hk -
      obtain ⟨rfl, hM1⟩ := q5.resolve_left h5
      dsimp only at e1; subst e1
      cases h
theorem xg_callWC_I {n d' nL' kc' ks' idx : Nat} {y : MethodName} {cc' : ByteArray} {ret' : Option FieldType} {vs st0 : List Value} {Fc : xO} {k9 : Int → xM → xO} {hh : List (Nat × Nat × Nat × Nat)} (hM : CmW l G y cc' nL' ret' hh d' 0 kc' ks' vs M Fc) (B : xYW y cc' nL' ret' hh n) (w1 : Cond.methodLink u.1 idx y ∈ xw) (hn : vs.length = n) (hdl : d' < d)
    (hW : (st.map Value.category).sum ≤ 8) (hd : decode u.2.1 pc = .ok (.invokestatic idx, 3)) (hp : pc' = pc + 3) (hs0 : st0 = vs.reverse ++ st) (hkc : kc + kc' ≤ kc0) (hks : ks + ks' ≤ ks0)
    (K : ∀ z M', R32 z → xcan M' → Gv l G u d t kc ks pc' ls (iv z :: st) M' (k9 z M')) : Gv l G u d t kc0 ks0 pc ls st0 M (xbc Fc k9 (fun _ _ => none)) := by
  subst hp; exact xg_callWC (by decide) hM B w1 hn hdl hW hd hs0 hkc hks (fun z M' hz hM' => K z M' hz hM')
theorem xg_callWC_J {n d' nL' kc' ks' idx : Nat} {y : MethodName} {cc' : ByteArray} {ret' : Option FieldType} {vs st0 : List Value} {Fc : xO} {k9 : Int → xM → xO} {hh : List (Nat × Nat × Nat × Nat)} (hM : CmW l G y cc' nL' ret' hh d' 2 kc' ks' vs M Fc) (B : xYW y cc' nL' ret' hh n) (w1 : Cond.methodLink u.1 idx y ∈ xw) (hn : vs.length = n) (hdl : d' < d)
    (hW : (st.map Value.category).sum ≤ 8) (hd : decode u.2.1 pc = .ok (.invokestatic idx, 3)) (hp : pc' = pc + 3) (hs0 : st0 = vs.reverse ++ st) (hkc : kc + kc' ≤ kc0) (hks : ks + ks' ≤ ks0)
    (K : ∀ z M', R64 z → xcan M' → Gv l G u d t kc ks pc' ls (jv z :: st) M' (k9 z M')) : Gv l G u d t kc0 ks0 pc ls st0 M (xbc Fc k9 (fun _ _ => none)) := by
  subst hp; exact xg_callWC (by decide) hM B w1 hn hdl hW hd hs0 hkc hks (fun z M' hz hM' => K z M' hz hM')
theorem xg_callWC_Z {n d' nL' kc' ks' idx : Nat} {y : MethodName} {cc' : ByteArray} {ret' : Option FieldType} {vs st0 : List Value} {Fc : xO} {k9 : Int → xM → xO} {hh : List (Nat × Nat × Nat × Nat)} (hM : CmW l G y cc' nL' ret' hh d' 1 kc' ks' vs M Fc) (B : xYW y cc' nL' ret' hh n) (w1 : Cond.methodLink u.1 idx y ∈ xw) (hn : vs.length = n) (hdl : d' < d)
    (hW : (st.map Value.category).sum ≤ 8) (hd : decode u.2.1 pc = .ok (.invokestatic idx, 3)) (hp : pc' = pc + 3) (hs0 : st0 = vs.reverse ++ st) (hkc : kc + kc' ≤ kc0) (hks : ks + ks' ≤ ks0)
    (K : ∀ z M', B01 z → xcan M' → Gv l G u d t kc ks pc' ls (iv z :: st) M' (k9 z M')) : Gv l G u d t kc0 ks0 pc ls st0 M (xbc Fc k9 (fun _ _ => none)) := by
  subst hp; exact xg_callWC (by decide) hM B w1 hn hdl hW hd hs0 hkc hks (fun z M' hz hM' => K z M' hz hM')
theorem xg_callSC {n d' nL' kc' ks' t' idx : Nat} {y : MethodName} {cc' : ByteArray} {ret' : Option FieldType} {vs st0 : List Value} {Fc : xO} {k9 : Int → xM → xO} {kx9 : Nat → xM → xO}
    (h5 : t' ≠ 5) (hM : Cm l G y cc' nL' ret' d' t' kc' ks' vs M Fc) (B : xYS y cc' nL' ret' n) (w1 : Cond.methodLink u.1 idx y ∈ xw) (hn : vs.length = n) (hdl : d' < d)
    (hW : (st.map Value.category).sum ≤ 8) (hd : decode u.2.1 pc = .ok (.invokestatic idx, 3)) (hs0 : st0 = vs.reverse ++ st) (hkc : kc + kc' ≤ kc0) (hks : ks + ks' ≤ ks0)
    (K : ∀ z M', xRt t' z → xcan M' → Gv l G u d t kc ks (pc + 3) ls ((xvo t' z).toList ++ st) M' (k9 z M'))
    (KX : ∀ e M', e < 3 → xcan M' → Gx l G u d t kc ks pc ls st M' e (kx9 e M')) : Gv l G u d t kc0 ks0 pc ls st0 M (xbc Fc k9 kx9) := by
  intro r h
  cases hF : Fc with
  | none => rw [hF] at h; cases h
  | some r0 =>
    obtain ⟨r1, M1⟩ := r0
    rw [hF] at h
    refine xv_callS (hM _ hF) w1 B.1 B.2.1 B.2.2.1 B.2.2.2.1 hn hdl B.2.2.2.2 hW hd hs0 hkc hks (xkp_of h5) ?_ ?_
    · rintro v σ' ⟨z, e1, rfl, hz, q5⟩ -
      obtain ⟨rfl, hM1⟩ := q5.resolve_left h5
      dsimp only at e1; subst e1
      exact K z M1 hz hM1 r h
    · rintro k σ' ⟨e1, q5⟩ hk -
      obtain ⟨rfl, hM1⟩ := q5.resolve_left h5
      dsimp only at e1; subst e1
      exact KX k M1 hk hM1 r h
theorem xg_callSC_I {n d' nL' kc' ks' idx : Nat} {y : MethodName} {cc' : ByteArray} {ret' : Option FieldType} {vs st0 : List Value} {Fc : xO} {k9 : Int → xM → xO} {kx9 : Nat → xM → xO}
    (hM : Cm l G y cc' nL' ret' d' 0 kc' ks' vs M Fc) (B : xYS y cc' nL' ret' n) (w1 : Cond.methodLink u.1 idx y ∈ xw) (hn : vs.length = n) (hdl : d' < d)
    (hW : (st.map Value.category).sum ≤ 8) (hd : decode u.2.1 pc = .ok (.invokestatic idx, 3)) (hp : pc' = pc + 3) (hs0 : st0 = vs.reverse ++ st) (hkc : kc + kc' ≤ kc0) (hks : ks + ks' ≤ ks0)
    (K : ∀ z M', R32 z → xcan M' → Gv l G u d t kc ks pc' ls (iv z :: st) M' (k9 z M'))
    (KX : ∀ e M', e < 3 → xcan M' → Gx l G u d t kc ks pc ls st M' e (kx9 e M')) : Gv l G u d t kc0 ks0 pc ls st0 M (xbc Fc k9 kx9) := by
  subst hp; exact xg_callSC (by decide) hM B w1 hn hdl hW hd hs0 hkc hks (fun z M' hz hM' => K z M' hz hM') KX
theorem xg_callSC_J {n d' nL' kc' ks' idx : Nat} {y : MethodName} {cc' : ByteArray} {ret' : Option FieldType} {vs st0 : List Value} {Fc : xO} {k9 : Int → xM → xO} {kx9 : Nat → xM → xO}
    (hM : Cm l G y cc' nL' ret' d' 2 kc' ks' vs M Fc) (B : xYS y cc' nL' ret' n) (w1 : Cond.methodLink u.1 idx y ∈ xw) (hn : vs.length = n) (hdl : d' < d)
    (hW : (st.map Value.category).sum ≤ 8) (hd : decode u.2.1 pc = .ok (.invokestatic idx, 3)) (hp : pc' = pc + 3) (hs0 : st0 = vs.reverse ++ st) (hkc : kc + kc' ≤ kc0) (hks : ks + ks' ≤ ks0)
    (K : ∀ z M', R64 z → xcan M' → Gv l G u d t kc ks pc' ls (jv z :: st) M' (k9 z M'))
    (KX : ∀ e M', e < 3 → xcan M' → Gx l G u d t kc ks pc ls st M' e (kx9 e M')) : Gv l G u d t kc0 ks0 pc ls st0 M (xbc Fc k9 kx9) := by
  subst hp; exact xg_callSC (by decide) hM B w1 hn hdl hW hd hs0 hkc hks (fun z M' hz hM' => K z M' hz hM') KX
theorem xg_callSC_Z {n d' nL' kc' ks' idx : Nat} {y : MethodName} {cc' : ByteArray} {ret' : Option FieldType} {vs st0 : List Value} {Fc : xO} {k9 : Int → xM → xO} {kx9 : Nat → xM → xO}
    (hM : Cm l G y cc' nL' ret' d' 1 kc' ks' vs M Fc) (B : xYS y cc' nL' ret' n) (w1 : Cond.methodLink u.1 idx y ∈ xw) (hn : vs.length = n) (hdl : d' < d)
    (hW : (st.map Value.category).sum ≤ 8) (hd : decode u.2.1 pc = .ok (.invokestatic idx, 3)) (hp : pc' = pc + 3) (hs0 : st0 = vs.reverse ++ st) (hkc : kc + kc' ≤ kc0) (hks : ks + ks' ≤ ks0)
    (K : ∀ z M', B01 z → xcan M' → Gv l G u d t kc ks pc' ls (iv z :: st) M' (k9 z M'))
    (KX : ∀ e M', e < 3 → xcan M' → Gx l G u d t kc ks pc ls st M' e (kx9 e M')) : Gv l G u d t kc0 ks0 pc ls st0 M (xbc Fc k9 kx9) := by
  subst hp; exact xg_callSC (by decide) hM B w1 hn hdl hW hd hs0 hkc hks (fun z M' hz hM' => K z M' hz hM') KX
theorem xg_callSC_N {n d' nL' kc' ks' idx : Nat} {y : MethodName} {cc' : ByteArray} {ret' : Option FieldType} {vs st0 : List Value} {Fc : xO} {k9 : Int → xM → xO} {kx9 : Nat → xM → xO}
    (hM : Cm l G y cc' nL' ret' d' 3 kc' ks' vs M Fc) (B : xYS y cc' nL' ret' n) (w1 : Cond.methodLink u.1 idx y ∈ xw) (hn : vs.length = n) (hdl : d' < d)
    (hW : (st.map Value.category).sum ≤ 8) (hd : decode u.2.1 pc = .ok (.invokestatic idx, 3)) (hp : pc' = pc + 3) (hs0 : st0 = vs.reverse ++ st) (hkc : kc + kc' ≤ kc0) (hks : ks + ks' ≤ ks0)
    (K : ∀ z M', True → xcan M' → Gv l G u d t kc ks pc' ls (st) M' (k9 z M'))
    (KX : ∀ e M', e < 3 → xcan M' → Gx l G u d t kc ks pc ls st M' e (kx9 e M')) : Gv l G u d t kc0 ks0 pc ls st0 M (xbc Fc k9 kx9) := by
  subst hp; exact xg_callSC (by decide) hM B w1 hn hdl hW hd hs0 hkc hks (fun z M' hz hM' => K z M' hz hM') KX
theorem xgx_nn {e : Nat} {Fx : Nat → xM → xO} (h : ∀ e M', Fx e M' = none) : ∀ e M', e < 3 → xcan M' → Gx l G u d t kc ks pc ls st M' e (Fx e M') := fun e M' _ _ r hr => by rw [h] at hr; cases hr
def xdcg (x y : UInt64) : Int := (Op.cmpValue (FP.dcmp x y) .g).toInt
theorem xdcg_r (x y : UInt64) : R32 (xdcg x y) := ⟨Int32.le_toInt _, Int32.toInt_lt _⟩
theorem xg_dcmpg {x y : UInt64} (hd : decode u.2.1 pc = .ok (.dcmp .g, 1)) (hp : pc' = pc + 1) (K : Gv l G u d t kc ks pc' ls (iv (xdcg x y) :: st) M F) : Gv l G u d t kc ks pc ls (.double y :: .double x :: st) M F := by
  subst hp; exact fun r h => xv_dcmp hd (by have K := K r h; rw [show (iv (xdcg x y) : Value) = .int (Op.cmpValue (FP.dcmp x y) .g) from iv_toInt _] at K; exact K)
/-- what was told -/
theorem xg_tald {c : Nat} {z : Int} (ho : xTa G c) (hd : decode u.2.1 pc = .ok (.laload, 1)) (hp : pc' = pc + 1) (K : Gv l G u d t kc ks pc' ls (jv (w64 (M c z.toNat)) :: st) M F) : Gv l G u d t kc ks pc ls (iv z :: .ref c :: st) M (xix z 60 F) := by
  subst hp; intro r h
  unfold xix at h
  by_cases q : 0 ≤ z ∧ z < ((60 : Nat) : Int)
  · rw [if_pos q] at h
    have K := K r h
    rw [jv_w64] at K
    exact xv_lald (xlg_t ho) (Int.toNat_of_nonneg q.1).symm (by omega) (by decide) hd K
  · rw [if_neg q] at h; cases h
theorem xcan.ta {M : xM} (h : xcan M) {c k : Nat} {v : Int} (hc : 401 ≤ c) : xcan (xup M c k v) := h.put (by rw [xLty_out c hc]; unfold xcank; simp [xft])
theorem xg_tast {c : Nat} {z v : Int} {k9 : xM → xO} (ho : xTa G c) (hd : decode u.2.1 pc = .ok (.lastore, 1)) (hp : pc' = pc + 1) (hM : xcan M) (K : ∀ M', xcan M' → Gv l G u d t kc ks pc' ls st M' (k9 M')) : Gv l G u d t kc ks pc ls (jv v :: iv z :: .ref c :: st) M (xix z 60 (xput c z.toNat v M k9)) := by
  subst hp; intro r h
  unfold xix at h
  by_cases q : 0 ≤ z ∧ z < ((60 : Nat) : Int)
  · rw [if_pos q] at h; exact xv_last (xlg_t ho) (Int.toNat_of_nonneg q.1).symm (by omega) (by decide) hd (K _ (hM.ta ho.1) r h)
  · rw [if_neg q] at h; cases h
def xm32 (x y : Int) : Int := (Int32.ofInt x % Int32.ofInt y).toInt
def xd32 (x y : Int) : Int := (Int32.ofInt x / Int32.ofInt y).toInt
theorem xm32_r (x y : Int) : R32 (xm32 x y) := ⟨Int32.le_toInt _, Int32.toInt_lt _⟩
theorem xd32_r (x y : Int) : R32 (xd32 x y) := ⟨Int32.le_toInt _, Int32.toInt_lt _⟩
theorem xv_idiv0 {Qr : Option Value → xS → Prop} {Qx : Nat → xS → Prop} {σ : xS} {x y : Int32} (hd : decode u.2.1 pc = .ok (.idiv, 1)) (hne : ¬ y = 0) (K : Ev l G u d Qr Qx kc ks (pc + 1) ls (.int (x / y) :: st) σ) : Ev l G u d Qr Qx kc ks pc ls (.int y :: .int x :: st) σ := xv_pure (fun p e s m args below meth c R H locs cells slots Q lsA ad hx hb hown hts hl k => lv_idiv hx hb hd hne k) K
theorem xv_irem0 {Qr : Option Value → xS → Prop} {Qx : Nat → xS → Prop} {σ : xS} {x y : Int32} (hd : decode u.2.1 pc = .ok (.irem, 1)) (hne : ¬ y = 0) (K : Ev l G u d Qr Qx kc ks (pc + 1) ls (.int (x - x / y * y) :: st) σ) : Ev l G u d Qr Qx kc ks pc ls (.int y :: .int x :: st) σ := xv_pure (fun p e s m args below meth c R H locs cells slots Q lsA ad hx hb hown hts hl k => lv_irem hx hb hd hne k) K
theorem xdiv32 {x y : Int} (hx : R32 x) (hy : 0 < y ∧ y < 2147483648) : Int32.ofInt x / Int32.ofInt y = Int32.ofInt (x.tdiv y) := (Int32.ofInt_tdiv (by simpa using hx.1) (by rw [show Int32.maxValue.toInt = 2147483647 from by decide]; omega) (by simpa using (show -2147483648 ≤ y by omega)) (by rw [show Int32.maxValue.toInt = 2147483647 from by decide]; omega)).symm
theorem xne32 {y : Int} (hy : 0 < y ∧ y < 2147483648) : ¬ Int32.ofInt y = 0 := fun q => by have q2 := congrArg Int32.toInt q; rw [show (Int32.ofInt y).toInt = y from w32_of (by omega) hy.2, Int32.toInt_zero] at q2; omega
theorem xtd32_r {x y : Int} (hx : R32 x) (hy : 0 < y) : R32 (x.tdiv y) := by
  rcases Int.le_total 0 x with h | h
  · rw [Int.tdiv_eq_ediv_of_nonneg h]
    have h1 := Int.ediv_nonneg h (show 0 ≤ y by omega)
    have h2 := Int.ediv_le_self y h
    omega
  · have e : x.tdiv y = -((-x).tdiv y) := by rw [Int.neg_tdiv, Int.neg_neg]
    rw [e, Int.tdiv_eq_ediv_of_nonneg (show 0 ≤ -x by omega)]
    have h1 := Int.ediv_nonneg (show 0 ≤ -x by omega) (show 0 ≤ y by omega)
    have h2 := Int.ediv_le_self y (show 0 ≤ -x by omega)
    omega
theorem xrm32_r {x y : Int} (hy : 0 < y ∧ y < 2147483648) : R32 (x - x.tdiv y * y) := by
  have e : x - x.tdiv y * y = x.tmod y := by rw [Int.tmod_def, Int.mul_comm]
  have h1 : (x.tmod y).natAbs < y.natAbs := by
    rw [Int.natAbs_tmod]; exact Nat.mod_lt _ (by omega)
  rw [e]; omega
theorem xg_idivk {x y : Int} (hd : decode u.2.1 pc = .ok (.idiv, 1)) (hp : pc' = pc + 1) (hx : R32 x) (hy : 0 < y ∧ y < 2147483648) (K : Gv l G u d t kc ks pc' ls (iv (x.tdiv y) :: st) M F) : Gv l G u d t kc ks pc ls (iv y :: iv x :: st) M F := by
  subst hp; exact fun r h => xv_idiv0 hd (xne32 hy) (by rw [xdiv32 hx hy]; exact K r h)
theorem xg_irem {x y : Int} (hd : decode u.2.1 pc = .ok (.irem, 1)) (hp : pc' = pc + 1) (hx : R32 x) (hy : R32 y) (K : 0 < y → Gv l G u d t kc ks pc' ls (iv (x - x.tdiv y * y) :: st) M F) : Gv l G u d t kc ks pc ls (iv y :: iv x :: st) M (xnz y F) := by
  subst hp; intro r h
  unfold xnz at h
  by_cases q : 0 < y
  · rw [if_pos q] at h
    exact xv_irem0 hd (xne32 ⟨q, hy.2⟩) (by rw [xdiv32 hx ⟨q, hy.2⟩, ← Int32.ofInt_mul, ← Int32.ofInt_sub]; exact K q r h)
  · rw [if_neg q] at h; cases h
theorem xv_aretA {Qr : Option Value → xS → Prop} {Qx : Nat → xS → Prop} {σ : xS} {x : Nat} (hr0 : u.2.2.2.1 = some (.array .long)) (hd : decode u.2.1 pc = .ok (.areturn, 1)) (h : Qr (some (.ref x)) σ) : Ev l G u d Qr Qx kc ks pc ls [.ref x] σ := by
  intro p e s m args below meth c9 C9 n0 ad0 ad H locs cells slots mc ms lsA h1 h2 h3 h4 h5 h6 h7 h8
  obtain ⟨hx, hb, hr, hml, hts, hown, hlocks, hfl, htab, hnm, hK, hH⟩ := C9
  refine W.widen (k := mc) (n := ms) (by omega) (by omega) (vx_ret ?_)
  exact W.aret hx hb (hr.trans hr0) (Or.inr ⟨.long, rfl⟩) (Or.inr ⟨_, rfl⟩) (fun t ht hW => ⟨⟨some (.ref x), σ, ad, rfl, h, h1, h2, by rw [ht]; exact h5⟩, h6.F ht⟩) (xS_free h6) hd hlocks
theorem xg_tret {c : Nat} (hr0 : u.2.2.2.1 = some (.array .long)) (hd : decode u.2.1 pc = .ok (.areturn, 1)) (ht : t = 6) (hM : xcan M) : Gv l G u d t kc ks pc ls [.ref c] M (xret (c : Int) M) := by
  subst ht; intro r h; cases h
  exact xv_aretA hr0 hd ⟨(c : Int), rfl, rfl, trivial, Or.inr ⟨rfl, hM⟩⟩
theorem xTa.up {N c : Nat} (h : xTa (setN G N) c) (hN : 401 ≤ N) : xTa (setN G (N + 1)) c := ⟨h.1, by have := h.2; rw [xGn_set hN] at this; rw [xGn_set (by omega)]; omega⟩
theorem xTa.new {N : Nat} (hN : 401 ≤ N) : xTa (setN G (N + 1)) N := ⟨hN, by rw [xGn_set (by omega)]; omega⟩
theorem xTa.lt {N c : Nat} (h : xTa (setN G N) c) (hN : 401 ≤ N) : c < N := by have := h.2; rw [xGn_set hN] at this; exact this
end XGD
