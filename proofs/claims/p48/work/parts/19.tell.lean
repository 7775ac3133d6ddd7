theorem xok_nil {n : Nat} : ∀ v ∈ ([] : List Value), xokv n v := fun _ h => by cases h
theorem xok_c {n : Nat} {a : Value} {st : List Value} (h : xokv n a) (t : ∀ v ∈ st, xokv n v) : ∀ v ∈ a :: st, xokv n v := fun v hv => (List.mem_cons.mp hv).elim (fun e => e ▸ h) (t v)
theorem xol_nil {n : Nat} : ∀ v, some v ∈ ([] : List (Option Value)) → xokv n v := fun _ h => by cases h
theorem xol_s {n : Nat} {a : Value} {ls : List (Option Value)} (h : xokv n a) (t : ∀ v, some v ∈ ls → xokv n v) : ∀ v, some v ∈ some a :: ls → xokv n v := fun v hv => (List.mem_cons.mp hv).elim (fun e => (Option.some.inj e) ▸ h) (t v)
theorem xol_n {n : Nat} {ls : List (Option Value)} (t : ∀ v, some v ∈ ls → xokv n v) : ∀ v, some v ∈ none :: ls → xokv n v := fun v hv => (List.mem_cons.mp hv).elim (fun e => by cases e) (t v)
/-- a new array at N -/
def xzr (N : Nat) (M : xM) : xM := fun a b => if a = N then 0 else M a b
theorem xzr_can {N : Nat} {M : xM} (hN : 401 ≤ N) (h : xcan M) : xcan (xzr N M) := fun c k => by
  unfold xzr
  by_cases q : c = N
  · rw [if_pos q, q, xLty_out N hN]; unfold xcank; simp [xft]
  · rw [if_neg q]; exact h c k
def xtell (N : Nat) (f : Nat → xM → xO) (M : xM) (K : xM → xO) : xO := if N < 900000 then xbc (f N (xzr N M)) (fun z M' => if z = (N : Int) then K M' else none) (fun _ _ => none) else none
theorem setN_set {G : xG} {a b : Nat} : setN (setN G a) b = setN G b := by
  refine Prod.ext rfl (Prod.ext rfl (Prod.ext rfl (Prod.ext rfl ?_)))
  funext i
  show (if i = 7 then b else if i = 7 then a else G.2.2.2.2 i) = if i = 7 then b else G.2.2.2.2 i
  by_cases q : i = 7
  · rw [if_pos q, if_pos q]
  · rw [if_neg q, if_neg q, if_neg q]
theorem xT_set {G : xG} {a i : Nat} (h : i ≠ 7) : (setN G a).2.2.2.2 i = G.2.2.2.2 i := if_neg h
theorem xK_set {G : xG} {a : Nat} {U : State} : xK (setN G a) U ↔ xK G U := by
  unfold xK
  rw [xT_set (i := 0) (by decide), xT_set (i := 1) (by decide), xT_set (i := 2) (by decide)]
  exact Iff.rfl
theorem Ev_set {l : Launch} {G : xG} {u : xU} {d : Nat} {Qr : Option Value → xS → Prop} {Qx : Nat → xS → Prop} {kc ks pc : Nat} {ls : List (Option Value)} {st : List Value} {σ : xS} {a b : Nat} (h : Ev l (setN G a) u d Qr Qx kc ks pc ls st σ) : Ev l (setN G b) u d Qr Qx kc ks pc ls st σ := by
  intro p e s m args below meth c C9
  obtain ⟨hx, hb, hr, hml, hts, hown, hlocks, hfl, htab, hnm, hK, hH⟩ := C9
  exact h p e s m args below meth c ⟨hx, hb, hr, hml, hts, hown, hlocks, hfl, htab, hnm, xK_set.mpr (xK_set.mp hK), hH⟩
theorem xQr5 {G G' : xG} {r : (Int ⊕ Nat) × xM} : xQr G 5 r = xQr G' 5 r := by
  funext v σ; unfold xQr; simp
theorem xQx5 {G G' : xG} {r : (Int ⊕ Nat) × xM} : xQx G 5 r = xQx G' 5 r := by
  funext v σ; unfold xQx; simp
theorem ct_tell {l : Launch} {G : xG} {N : Nat} (hN : 401 ≤ N) (hN2 : N < 900000) (hl : l.stackTraces = false) (x0 : Nat) (h0 : xOb 11 x0) (x1 : Nat) (h1 : xAn 0 5 x1) {M : xM} (hM : xcan M) {r : (Int ⊕ Nat) × xM} (hr : fL_tell x0 x1 N (xzr N M) = some r) : Ct l (setN G N) yL_tell cL_tell 5 (some (.array .long)) 21 (xQr (setN G (N + 1)) 6 r) (xQx (setN G (N + 1)) 6 r) 165 1044 [.ref x0, .ref x1] (xLG (setN G N), M) := by
  have hNn : xGn (setN G N) = N := xGn_set hN
  refine xct_of (ls := [some (.ref x0), some (.ref x1), none, none, none]) hl (by decide +kernel) (Nat.le_of_ble_eq_true rfl) (xpad_get [.ref x0, .ref x1] 3) ?_
  show Ev l (setN G N) uL_tell 21 _ _ 165 1044 0 [some (.ref x0), some (.ref x1), none, none, none] [] (xLG (setN G N), M)
  refine xv_bipush (n := 60) dL_tell_0 (by decide +kernel) ?_
  refine xv_newa_l (x := Int32.ofInt 60) (n := 60) (kc := 164) (ks := 984) xq_51 dL_tell_2 (by decide) (by decide) (by decide) ?_ (by decide) (by decide) xok_nil ?_ ?_
  · show xGn (setN G N) + 1 < xSCR
    rw [hNn]; unfold xSCR; omega
  · show ∀ v, some v ∈ _ → xokv (xGn (setN G N)) v
    rw [hNn]
    exact xol_s (Or.inl (Nat.lt_of_lt_of_le (xOb.lt h0 (by decide)) hN)) (xol_s (Or.inl (Nat.lt_of_lt_of_le h1.lt hN)) (xol_n (xol_n (xol_n xol_nil))))
  · rw [xlg_new (by rw [hNn]; exact hN)]
    show Ev l (setN G N) uL_tell 21 _ _ 164 984 4 _ [.ref (xGn (setN G N))] (xLG (setN (setN G N) (xGn (setN G N) + 1)), fun a b => if a = xGn (setN G N) then 0 else M a b)
    rw [hNn, setN_set]
    refine Ev_set (a := N + 1) ?_
    refine xv_astore_n (ls' := [some (.ref x0), some (.ref x1), some (.ref N), none, none]) dL_tell_4 (show 2 < 5 by decide) rfl ?_
    exact gL_tell (G := setN G (N + 1)) hl x0 h0 x1 h1 N (xTa.new hN) (xzr N M) (xzr_can hN hM) r hr
section XTELL
variable {l : Launch} {G : xG} {u : xU} {kc ks kc0 ks0 pc pc' : Nat} {ls : List (Option Value)} {st : List Value} {M : xM} {F : xO}
theorem xg_tell {N idx : Nat} {st0 : List Value} {k9 : xM → xO} (hN : 401 ≤ N) (hl : l.stackTraces = false) (x0 : Nat) (h0 : xOb 11 x0) (x1 : Nat) (h1 : xAn 0 5 x1) (hM : xcan M) (w1 : Cond.methodLink u.1 idx yL_tell ∈ xw) (hW : (st.map Value.category).sum ≤ 8) (hd : decode u.2.1 pc = .ok (.invokestatic idx, 3)) (hp : pc' = pc + 3) (hs0 : st0 = [.ref x0, .ref x1].reverse ++ st) (hkc : kc + 165 ≤ kc0) (hks : ks + 1044 ≤ ks0)
    (hls : ∀ v, some v ∈ ls → xokv N v) (hst : ∀ v ∈ st, xokv N v) (K : ∀ M', xcan M' → Gv l (setN G (N + 1)) u 22 5 kc ks pc' ls (.ref N :: st) M' (k9 M')) : Gv l (setN G N) u 22 5 kc0 ks0 pc ls st0 M (xtell N (fL_tell x0 x1) M k9) := by
  subst hp; intro r h
  unfold xtell at h
  by_cases q : N < 900000
  · rw [if_pos q] at h
    cases hF : fL_tell x0 x1 N (xzr N M) with
    | none => rw [hF] at h; cases h
    | some r0 =>
      obtain ⟨r1, M1⟩ := r0
      rw [hF] at h
      have hc := ct_tell (G := G) hN q hl x0 h0 x1 h1 hM hF
      have hNn : (xLG (setN G N), M).1.1 = N := xGn_set hN
      refine xv_callS (n := 2) hc w1 bL_tell.1 bL_tell.2.1 bL_tell.2.2.1 bL_tell.2.2.2.1 rfl (by decide) bL_tell.2.2.2.2 hW hd hs0 hkc hks (Or.inl ⟨by rw [hNn]; exact hst, by rw [hNn]; exact hls⟩) ?_ ?_
      · rintro v σ' ⟨z, e1, rfl, hz, q5⟩ -
        obtain ⟨rfl, hM1⟩ := q5.resolve_left (by decide)
        dsimp only at e1; subst e1
        have h2 : (if z = (N : Int) then k9 M1 else none) = some r := h
        by_cases qz : z = (N : Int)
        · rw [if_pos qz] at h2; subst qz
          have k1 := K M1 hM1 r h2
          rw [xQr5 (G' := setN G N), xQx5 (G' := setN G N)] at k1
          exact Ev_set k1
        · rw [if_neg qz] at h2; cases h2
      · rintro k σ' ⟨e1, q5⟩ -
        dsimp only at e1; subst e1
        cases h
  · rw [if_neg q] at h; cases h
theorem xg_zretL {z : Int} (hr0 : u.2.2.2.1 = some .boolean) {d t : Nat} (hd : decode u.2.1 pc = .ok (.ireturn, 1)) (ht : t = 5) (hz : B01 z) : Gv l G u d t kc ks pc ls [iv z] M (xret z M) := by
  subst ht; intro r h; cases h
  exact xv_zret hr0 (by rcases hz with rfl | rfl <;> decide) hd ⟨z, rfl, rfl, hz, Or.inl rfl⟩
end XTELL
