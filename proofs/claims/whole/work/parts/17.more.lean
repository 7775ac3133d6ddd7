/-- doubles, the script, the law's own calls -/
def xnn (r : UInt64) (F : xO) : xO := if r &&& 0x7fffffffffffffff ≤ 0x7ff0000000000000 then F else none
def xdcl (x y : UInt64) : Int := (Op.cmpValue (FP.dcmp x y) .l).toInt
theorem xdcl_r (x y : UInt64) : R32 (xdcl x y) := ⟨Int32.le_toInt _, Int32.toInt_lt _⟩
def xl2d (z : Int) : UInt64 := FP.l2d (Int64.ofInt z)
theorem xsx_r (x : Int32) : R32 x.toInt := ⟨Int32.le_toInt _, Int32.toInt_lt _⟩
theorem xsl_r {sl : Nat} (h : sl ≤ 2147483647) : R32 (sl : Int) := by omega
def xsw (x lo hi : Int) (D : xO) (Fs : List xO) : xO := if x < lo ∨ hi < x then D else Fs.getD (x - lo).toNat none
section XGD
variable {l : Launch} {G : xG} {u : xU} {d t kc ks kc0 ks0 pc pc' : Nat} {ls : List (Option Value)} {st : List Value} {M : xM} {F : xO}
theorem xg_dconst0 (hd : decode u.2.1 pc = .ok (.dconst 0, 1)) (hp : pc' = pc + 1) (K : Gv l G u d t kc ks pc' ls (.double 0 :: st) M F) : Gv l G u d t kc ks pc ls st M F := by
  subst hp; exact fun r h => xv_dconst0 hd (K r h)
theorem xg_ldc2d {index : Nat} {v : UInt64} (hw : Cond.constantDouble u.1 index v ∈ xw) (hd : decode u.2.1 pc = .ok (.ldc2_w index, 3)) (hp : pc' = pc + 3) (K : Gv l G u d t kc ks pc' ls (.double v :: st) M F) : Gv l G u d t kc ks pc ls st M F := by
  subst hp; exact fun r h => xv_ldc2d hd hw (K r h)
theorem xg_dload_n {j : Fin 4} {x : UInt64} (hd : decode u.2.1 pc = .ok (.dload_n j, 1)) (hp : pc' = pc + 1) (hl : ls[(j : Nat)]? = some (some (.double x))) (K : Gv l G u d t kc ks pc' ls (.double x :: st) M F) : Gv l G u d t kc ks pc ls st M F := by
  subst hp; exact fun r h => xv_dload_n hd hl (K r h)
theorem xg_dload {j : Nat} {x : UInt64} (hd : decode u.2.1 pc = .ok (.dload j, 2)) (hp : pc' = pc + 2) (hl : ls[j]? = some (some (.double x))) (K : Gv l G u d t kc ks pc' ls (.double x :: st) M F) : Gv l G u d t kc ks pc ls st M F := by
  subst hp; exact fun r h => xv_dload hd hl (K r h)
theorem xg_dstore {j : Nat} {x : UInt64} {ls2 : List (Option Value)} (hd : decode u.2.1 pc = .ok (.dstore j, 2)) (hp : pc' = pc + 2) (hn : j + 1 < u.2.2.1) (hl : xs2 j (.double x) ls = ls2) (K : Gv l G u d t kc ks pc' ls2 st M F) : Gv l G u d t kc ks pc ls (.double x :: st) M F := by
  subst hp; exact fun r h => xv_dstore hd hn hl (K r h)
theorem xg_l2d {x : Int} (hd : decode u.2.1 pc = .ok (.l2d, 1)) (hp : pc' = pc + 1) (K : Gv l G u d t kc ks pc' ls (.double (xl2d x) :: st) M F) : Gv l G u d t kc ks pc ls (jv x :: st) M F := by
  subst hp; exact fun r h => xv_l2d0 hd (K r h)
theorem xg_dmul {x y : UInt64} (hd : decode u.2.1 pc = .ok (.dmul, 1)) (hp : pc' = pc + 1) (K : Gv l G u d t kc ks pc' ls (.double (FP.dmul x y) :: st) M F) : Gv l G u d t kc ks pc ls (.double y :: .double x :: st) M (xnn (FP.dmul x y) F) := by
  subst hp; intro r h
  unfold xnn at h
  by_cases q : FP.dmul x y &&& 0x7fffffffffffffff ≤ 0x7ff0000000000000
  · rw [if_pos q] at h; exact xv_dmul hd q (K r h)
  · rw [if_neg q] at h; cases h
theorem xg_ddiv {x y : UInt64} (hd : decode u.2.1 pc = .ok (.ddiv, 1)) (hp : pc' = pc + 1) (K : Gv l G u d t kc ks pc' ls (.double (FP.ddiv x y) :: st) M F) : Gv l G u d t kc ks pc ls (.double y :: .double x :: st) M (xnn (FP.ddiv x y) F) := by
  subst hp; intro r h
  unfold xnn at h
  by_cases q : FP.ddiv x y &&& 0x7fffffffffffffff ≤ 0x7ff0000000000000
  · rw [if_pos q] at h; exact xv_ddiv hd q (K r h)
  · rw [if_neg q] at h; cases h
theorem xg_dcmp {x y : UInt64} (hd : decode u.2.1 pc = .ok (.dcmp .l, 1)) (hp : pc' = pc + 1) (K : Gv l G u d t kc ks pc' ls (iv (xdcl x y) :: st) M F) : Gv l G u d t kc ks pc ls (.double y :: .double x :: st) M F := by
  subst hp; exact fun r h => xv_dcmp hd (by have K := K r h; rw [show (iv (xdcl x y) : Value) = .int (Op.cmpValue (FP.dcmp x y) .l) from iv_toInt _] at K; exact K)
theorem xg_daldk {c n k : Nat} {z : Int} (ho : xAn 2 n c) (hd : decode u.2.1 pc = .ok (.daload, 1)) (hp : pc' = pc + 1) (hz : z = (k : Int)) (hk : k < n) (K : Gv l G u d t kc ks pc' ls (.double (UInt64.ofNat (M c k).toNat) :: st) M F) : Gv l G u d t kc ks pc ls (iv z :: .ref c :: st) M F := by
  subst hp; exact fun r h => xv_dald ho hz hk ho.le hd (K r h)
theorem xcan.pad {M : xM} (h : xcan M) {n c k : Nat} {v : Int} (ho : xAn 2 n c) (hv : RD v) : xcan (xup M c k v) := h.put (by rw [show xLty c = .inr (2, n) from ho]; exact hv)
theorem xdn_r (x : UInt64) : RD (x.toNat : Int) := ⟨Int.natCast_nonneg _, by have := x.toNat_lt; omega⟩
theorem xg_dast {c n : Nat} {z : Int} {x : UInt64} {k9 : xM → xO} (ho : xAn 2 n c) (hd : decode u.2.1 pc = .ok (.dastore, 1)) (hp : pc' = pc + 1) (hM : xcan M) (K : ∀ M', xcan M' → Gv l G u d t kc ks pc' ls st M' (k9 M')) : Gv l G u d t kc ks pc ls (.double x :: iv z :: .ref c :: st) M (xix z n (xput c z.toNat (x.toNat : Int) M k9)) := by
  subst hp; intro r h
  unfold xix at h
  by_cases q : 0 ≤ z ∧ z < (n : Int)
  · rw [if_pos q] at h; exact xv_dast ho (Int.toNat_of_nonneg q.1).symm (by omega) ho.le hd (K _ (hM.pad ho (xdn_r x)) r h)
  · rw [if_neg q] at h; cases h
theorem xg_dret {x : UInt64} (hr0 : u.2.2.2.1 = some .double) (hd : decode u.2.1 pc = .ok (.dreturn, 1)) (ht : t = 4) (hM : xcan M) : Gv l G u d t kc ks pc ls [.double x] M (xret (x.toNat : Int) M) := by
  subst ht; intro r h; cases h
  exact xv_dret hr0 hd ⟨(x.toNat : Int), rfl, by show some (Value.double x) = some (.double (UInt64.ofNat ((x.toNat : Int)).toNat)); rw [Int.toNat_natCast, UInt64.ofNat_toNat], xdn_r x, rfl, hM⟩
theorem xg_slen {sl : Nat} {sx : Nat → Int32} (hS : G.2.2.2.1.2 = (sl, sx)) (hd : decode u.2.1 pc = .ok (.arraylength, 1)) (hp : pc' = pc + 1) (K : Gv l G u d t kc ks pc' ls (iv (sl : Int) :: st) M F) : Gv l G u d t kc ks pc ls (.ref xSCR :: st) M F := by
  subst hp; intro r h
  refine xv_slen hd ?_
  rw [show G.2.2.2.1.2.1 = sl by rw [hS]]
  exact K r h
theorem xg_sld {sl : Nat} {sx : Nat → Int32} {z : Int} (hS : G.2.2.2.1.2 = (sl, sx)) (hsl : sl ≤ 2147483647) (hd : decode u.2.1 pc = .ok (.iaload, 1)) (hp : pc' = pc + 1) (K : Gv l G u d t kc ks pc' ls (iv (sx z.toNat).toInt :: st) M F) : Gv l G u d t kc ks pc ls (iv z :: .ref xSCR :: st) M (xix z sl F) := by
  subst hp; intro r h
  unfold xix at h
  have e1 : G.2.2.2.1.2.1 = sl := by rw [hS]
  have e2 : G.2.2.2.1.2.2 = sx := by rw [hS]
  by_cases q : 0 ≤ z ∧ z < (sl : Int)
  · rw [if_pos q] at h
    refine xv_sld (k := z.toNat) (Int.toNat_of_nonneg q.1).symm (by rw [e1]; omega) (by rw [e1]; omega) hd ?_
    rw [e2]; exact K r h
  · rw [if_neg q] at h; cases h
theorem xg_tab {dflt lo hi : Int} {offs : Array Int} {len : Nat} {x : Int} {tgt : Nat} {A : xO} {Fs : List xO} (hd : decode u.2.1 pc = .ok (.tableswitch dflt lo hi offs, len)) (hx : R32 x) (ht : (pc : Int) + dflt = (tgt : Int)) (KD : Gv l G u d t kc ks tgt ls st M A)
    (KS : ∀ i : Nat, (i : Int) ≤ hi - lo → ∃ (off : Int) (tg : Nat), offs[i]? = some off ∧ (pc : Int) + off = (tg : Int) ∧ Gv l G u d t kc ks tg ls st M (Fs.getD i none)) : Gv l G u d t kc ks pc ls (iv x :: st) M (xsw x lo hi A Fs) := by
  intro r h
  have e : (Int32.ofInt x).toInt = x := w32_of hx.1 hx.2
  unfold xsw at h
  by_cases q : x < lo ∨ hi < x
  · rw [if_pos q] at h
    exact xv_tabOut hd (by rw [e]; exact q) ht (KD r h)
  · rw [if_neg q] at h
    obtain ⟨off, tg, h1, h2, h3⟩ := KS (x - lo).toNat (by omega)
    exact xv_tabIn hd (by rw [e]; omega) (by rw [e]; omega) (by rw [e]; exact h1) h2 (h3 r h)
theorem xg_callVC_D {n d' nL' kc' ks' idx : Nat} {y : MethodName} {cc' : ByteArray} {ret' : Option FieldType} {vs st0 : List Value} {Fc : xO} {k9 : Int → xM → xO} {b ci N : Nat} {C : String} {T : u_T} {kx9 : Nat → xM → xO} (hM : Cm l G y cc' nL' ret' d' 4 kc' ks' (.ref b :: vs) M Fc) (B : xYV y cc' nL' ret' n) (hC : xCl ci C T N) (hb0 : xOb ci b) (hyc : y.cls = C) (w1 : Cond.methodLink u.1 idx y ∈ xw) (hn : vs.length = n) (hdl : d' < d) (hW : (st.map Value.category).sum ≤ 8) (hd : decode u.2.1 pc = .ok (.invokevirtual idx, 3)) (hp : pc' = pc + 3) (hs0 : st0 = vs.reverse ++ .ref b :: st) (hkc : kc + kc' ≤ kc0) (hks : ks + ks' ≤ ks0) (K : ∀ z M', RD z → xcan M' → Gv l G u d t kc ks pc' ls (.double (UInt64.ofNat z.toNat) :: st) M' (k9 z M')) (KX : ∀ e M', e < 3 → xcan M' → Gx l G u d t kc ks pc ls st M' e (kx9 e M')) : Gv l G u d t kc0 ks0 pc ls st0 M (xbc Fc k9 kx9) := by
  subst hp; exact xg_callVC hM B hC hb0 hyc w1 hn hdl hW hd hs0 hkc hks (fun z M' hz hM' => K z M' hz hM') KX
theorem xg_callWC_I {n d' nL' kc' ks' idx : Nat} {y : MethodName} {cc' : ByteArray} {ret' : Option FieldType} {vs st0 : List Value} {Fc : xO} {k9 : Int → xM → xO} {hh : List (Nat × Nat × Nat × Nat)} (hM : CmW l G y cc' nL' ret' hh d' 0 kc' ks' vs M Fc) (B : xYW y cc' nL' ret' hh n) (w1 : Cond.methodLink u.1 idx y ∈ xw) (hn : vs.length = n) (hdl : d' < d)
    (hW : (st.map Value.category).sum ≤ 8) (hd : decode u.2.1 pc = .ok (.invokestatic idx, 3)) (hp : pc' = pc + 3) (hs0 : st0 = vs.reverse ++ st) (hkc : kc + kc' ≤ kc0) (hks : ks + ks' ≤ ks0)
    (K : ∀ z M', R32 z → xcan M' → Gv l G u d t kc ks pc' ls (iv z :: st) M' (k9 z M')) : Gv l G u d t kc0 ks0 pc ls st0 M (xbc Fc k9 (fun _ _ => none)) := by
  subst hp
  intro r h
  cases hF : Fc with
  | none => rw [hF] at h; cases h
  | some r0 =>
    obtain ⟨r1, M1⟩ := r0
    rw [hF] at h
    refine xv_callW (hM _ hF) w1 B.1 B.2.1 B.2.2.1 B.2.2.2.1 hn hdl B.2.2.2.2 hW hd hs0 hkc hks xkp_of ?_ ?_
    · rintro v σ' ⟨z, e1, rfl, hz, rfl, hM1⟩ -
      dsimp only at e1; subst e1
      exact K z M1 hz hM1 r h
    · rintro k σ' ⟨e1, rfl, hM1⟩ hk -
      dsimp only at e1; subst e1
      cases h
end XGD
