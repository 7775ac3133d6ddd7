/-- q is thrown here, of the kind k -/
def Xv (l : Launch) (G : xG) (u : xU) (d : Nat) (Qr : Option Value → xS → Prop) (Qx : Nat → xS → Prop) (kc ks pc : Nat) (ls : List (Option Value)) (st : List Value) (σ : xS) (k : Nat) : Prop :=
  ∀ (p : Program) (e : Env) (s : State) (m : MethodId) (args : Array Value) (below : List Frame) (meth : Method) (c : Code), xC l G u p s m args meth c →
  ∀ (n0 : Nat) (ad0 ad : Nat → Nat) (H : Heap) (locs : List Loc) (cells slots mc ms : Nat) (lsA : Array Slot) (q : Addr) (ce : Cell),
    n0 ≤ σ.1.1 → xE n0 ad0 σ.1.1 ad → ad xSCR = G.2.2.2.1.1 → xLs lsA u.2.2.1 ad ls → xP G σ ad H → va_S (xA G) s.heap H locs → cells + kc ≤ mc → slots + ks ≤ ms → H[q]? = some ce → ce.vm = .none → s.vm.findClass (xen k) = some ce.cls →
    vx_W p l e (xR d mc ms) s m args below meth c H locs cells slots (vx_MQ below (xQ G n0 ad0 Qr) (xX G n0 ad0 Qx) args s mc ms (xA G)) (F0 m pc lsA (st.map (xcv ad))) q
theorem xS_free {G : xG} {H0 H : Heap} {locs : List Loc} (h : va_S (xA G) H0 H locs) : ∀ z ∈ locs, xA G z.base := h.2.2
/-- what is referred to from here stands where it stood, after a call too -/
def xkp (Qr' : Option Value → xS → Prop) (Qx' : Nat → xS → Prop) (ls : List (Option Value)) (st : List Value) (σ : xS) : Prop :=
  ((∀ v ∈ st, xokv σ.1.1 v) ∧ ∀ v, some v ∈ ls → xokv σ.1.1 v) ∨ ((∀ v σ', Qr' v σ' → σ'.1.1 = σ.1.1) ∧ ∀ k σ', Qx' k σ' → σ'.1.1 = σ.1.1)
section XCALL
variable {l : Launch} {G : xG} {u : xU} {d : Nat} {Qr : Option Value → xS → Prop} {Qx : Nat → xS → Prop} {kc ks pc : Nat} {ls : List (Option Value)} {st : List Value} {σ : xS}
theorem xw_in {ws : List Cond} (h : ∀ w ∈ ws, w ∈ xw) : GoodIn xw ws := fun w hw => ⟨h w hw, good_of_word (xw_good w (h w hw))⟩
theorem xv_run {kc' ks' kc0 ks0 n : Nat} {y : MethodName} {Qr' : Option Value → xS → Prop} {Qx' : Nat → xS → Prop} {st0 : List Value}
    (hrun : ∀ (p : Program) (e : Env) (s : State) (m : MethodId) (args : Array Value) (below : List Frame) (meth : Method) (c : Code), xC l G u p s m args meth c →
      ∀ (ad : Nat → Nat) (H : Heap) (locs : List Loc) (cells slots mc ms : Nat) (lsA : Array Slot), ad xSCR = G.2.2.2.1.1 → xLs lsA u.2.2.1 ad ls → xP G σ ad H → va_S (xA G) s.heap H locs → cells + kc' ≤ mc → slots + ks' ≤ ms →
      ∃ a : Array Value, vx_Run p l e (xR d mc ms) s m args below meth c H locs cells slots kc' ks' (F0 m pc lsA (st0.map (xcv ad))) (st.map (xcv ad)) (xQ G σ.1.1 ad Qr' a) (xX G σ.1.1 ad Qx') (xA G))
    (hkc : kc + kc' ≤ kc0) (hks : ks + ks' ≤ ks0)
    (hok : xkp Qr' Qx' ls st σ)
    (kr : ∀ v σ', Qr' v σ' → σ.1.1 ≤ σ'.1.1 → Ev l G u d Qr Qx kc ks (pc + 3) ls (v.toList ++ st) σ')
    (kx : ∀ k σ', Qx' k σ' → k < 3 → σ.1.1 ≤ σ'.1.1 → Xv l G u d Qr Qx kc ks pc ls st σ' k) : Ev l G u d Qr Qx kc0 ks0 pc ls st0 σ := by
  intro p e s m args below meth c9 C9 n0 ad0 ad H locs cells slots mc ms lsA h1 h2 h3 h4 h5 h6 h7 h8 T hT X
  obtain ⟨a, hr⟩ := hrun p e s m args below meth c9 C9 ad H locs cells slots mc ms lsA h3 h4 h5 h6 (by omega) (by omega)
  have hcv : ∀ (σ' : xS) (ad' : Nat → Nat), xE σ.1.1 ad σ'.1.1 ad' → ∀ v, xokv σ.1.1 v → xcv ad' v = xcv ad v := by
    intro σ' ad' hE v hv
    cases v with
    | ref c => exact congrArg Value.ref (hE.1 c hv)
    | _ => rfl
  have hmap : ∀ (σ' : xS) (ad' : Nat → Nat), xE σ.1.1 ad σ'.1.1 ad' → σ'.1.1 = σ.1.1 ∨ ((∀ v ∈ st, xokv σ.1.1 v) ∧ ∀ v, some v ∈ ls → xokv σ.1.1 v) → st.map (xcv ad) = st.map (xcv ad') := by
    intro σ' ad' hE hz
    rcases hz with hz | hz
    · rw [hE.2 hz]
    · exact List.map_congr_left (fun v hv => (hcv σ' ad' hE v (hz.1 v hv)).symm)
  have hloc : ∀ (σ' : xS) (ad' : Nat → Nat), xE σ.1.1 ad σ'.1.1 ad' → σ'.1.1 = σ.1.1 ∨ ((∀ v ∈ st, xokv σ.1.1 v) ∧ ∀ v, some v ∈ ls → xokv σ.1.1 v) → xLs lsA u.2.2.1 ad' ls := by
    intro σ' ad' hE hz
    rcases hz with hz | hz
    · rw [hE.2 hz]; exact h4
    · exact ⟨h4.1, h4.2.1, fun i v hv => by rw [hcv σ' ad' hE v (hz.2 v (List.mem_of_getElem? hv))]; exact h4.2.2 i v hv⟩
  have hsz : σ.1.1 < xSCR := h5.2.2.1
  rcases hr T hT X with ⟨v, st₀, t, T', L, g0, X', hL, e1, e2, ⟨⟨v', σ', ad', hv, hq, hle, hE, hP'⟩, hF⟩, hgo⟩ | ⟨q, st₀, t, T', L, E, ce, g0, X', hL, e1, e2, ⟨⟨k, σ', ad', hen, hk3, hq, hle, hE, hP'⟩, hF⟩, hce, hcv0, hcl, hgo⟩
  · have hv' : v = v'.map (xcv ad') := by cases hv; rfl
    subst hv'
    obtain ⟨k1, k2, k3⟩ := vx_keep g0 e1 h6 (fun _ _ z => z) (fun _ z => z) hL hF
    have hz := hok.elim Or.inr (fun z => Or.inl (z.1 v' σ' hq))
    have K := kr v' σ' hq hle p e s m args below meth c9 C9 n0 ad0 ad' T'.heap (locs ++ L) (cells + kc') (slots + ks') mc ms lsA (Nat.le_trans h1 hle) (h2.trans hE h1 hle) (by rw [hE.1 xSCR (Or.inr rfl)]; exact h3) (hloc σ' ad' hE hz) (by rw [e1]; exact hP') k3 (by omega) (by omega)
    have hs : (v'.toList ++ st).map (xcv ad') = (v'.map (xcv ad')).toList ++ st.map (xcv ad) := by
      rw [List.map_append, hmap σ' ad' hE hz]
      cases v' <;> rfl
    rw [hs] at K
    obtain ⟨t2, a1, b1⟩ := K T' rfl X'
    exact ⟨t2, hgo t2 a1, b1⟩
  · subst hen
    obtain ⟨k1, k2, k3⟩ := vx_keep g0 e1 h6 (fun _ _ z => z) (fun _ z => z) hL hF
    have hz := hok.elim Or.inr (fun z => Or.inl (z.2 k σ' hq))
    have K := kx k σ' hq hk3 hle p e s m args below meth c9 C9 n0 ad0 ad' T'.heap (locs ++ L) (cells + kc') (slots + ks') mc ms lsA q ce (Nat.le_trans h1 hle) (h2.trans hE h1 hle) (by rw [hE.1 xSCR (Or.inr rfl)]; exact h3) (hloc σ' ad' hE hz) (by rw [e1]; exact hP') k3 (by omega) (by omega) (by rw [e1]; exact hce) hcv0 hcl
    rw [← hmap σ' ad' hE hz] at K
    obtain ⟨t2, a1, b1⟩ := K T' rfl X'
    exact ⟨t2, hgo.trans a1, b1⟩
theorem xpre {ad : Nat → Nat} {s : State} {H : Heap} {locs : List Loc} {As : List Value} (hK : xK G s) (hH : xH G s s.heap) (hS : va_S (xA G) s.heap H locs) (hP : xP G σ ad H) : ∀ U : State, U.heap = H → s.WarmedH U.vm → va_Pc As (fun U => xK G U ∧ xH G U U.heap ∧ xP G σ ad U.heap) As.toArray U := by
  intro U hU hW
  refine ⟨rfl, hK.warm hW, ?_, by rw [hU]; exact hP⟩
  rw [hU]
  exact (hH.kept hS.1 hS.2.1).moved hW.alike
theorem xblind {ad : Nat → Nat} {As : List Value} : FrameBlind (va_Pc As (fun U => xK G U ∧ xH G U U.heap ∧ xP G σ ad U.heap)) := fun a U g mk ⟨h, h1, h2, h3⟩ =>
  ⟨h, xK.warm (s := U) (U := U.calling g mk a) (State.WarmedH.refl U) h1, xH.moved (u := U) (U := U.calling g mk a) (Vm.Alike.refl U.vm) h2, h3⟩
theorem xv_callV {n d' nL' kc' ks' kc0 ks0 b ci N idx : Nat} {y : MethodName} {cc' : ByteArray} {ret' : Option FieldType} {Qr' : Option Value → xS → Prop} {Qx' : Nat → xS → Prop} {vs st0 : List Value} {C : String} {T : u_T}
    (hM : Ct l G y cc' nL' ret' d' Qr' Qx' kc' ks' (.ref b :: vs) σ) (hC : xCl ci C T N) (hb0 : σ.1.2.1 b = .inl ci) (hyc : y.cls = C)
    (w1 : Cond.methodLink u.1 idx y ∈ xw) (w2 : Cond.instanceMethod y ∈ xw) (w3 : Cond.selects C y y ∈ xw) (w4 : Cond.initialized C ∈ xw) (w5 : Cond.code y cc' nL' ret' ∈ xw)
    (hp : y.cls ≠ "java/lang/invoke/MethodHandle" ∧ y.cls ≠ "java/lang/invoke/VarHandle" ∧ (parseMethodDescriptor y.desc).map (fun d => d.parameters.length) = some n) (hn : vs.length = n) (hdl : d' < d) (hnl : nL' ≤ 41)
    (hW : (st.map Value.category).sum ≤ 8) (hd : decode u.2.1 pc = .ok (.invokevirtual idx, 3)) (hs0 : st0 = vs.reverse ++ .ref b :: st)
    (hkc : kc + kc' ≤ kc0) (hks : ks + ks' ≤ ks0)
    (hok : xkp Qr' Qx' ls st σ)
    (kr : ∀ v σ', Qr' v σ' → σ.1.1 ≤ σ'.1.1 → Ev l G u d Qr Qx kc ks (pc + 3) ls (v.toList ++ st) σ')
    (kx : ∀ k σ', Qx' k σ' → k < 3 → σ.1.1 ≤ σ'.1.1 → Xv l G u d Qr Qx kc ks pc ls st σ' k) : Ev l G u d Qr Qx kc0 ks0 pc ls st0 σ := by
  refine xv_run (n := n) (y := y) ?_ hkc hks hok kr kx
  intro p e s m args below meth c C9 ad H locs cells slots mc ms lsA h3 h4 h5 h6 h7 h8
  obtain ⟨hx, hb, hr, hml, hts, hown, hlocks, hfl, htab, hnm, hK, hH⟩ := C9
  subst hyc
  have hbn : b < σ.1.1 := h5.lt (by rw [hb0]; intro q; exact hC.2.2.2.2.2 (Sum.inl.inj q))
  have hcw : CallW (xR d mc ms) s args u.1 y.cls idx y cc' nL' ret' (.code y cc' nL' ret' :: xw) (xR d' kc' ks') kc' ks' n :=
    cwV n hts (xw_in (fun w hw => by
      rcases List.mem_append.mp hw with hw | hw
      · simp only [List.mem_cons, List.not_mem_nil, or_false] at hw
        rcases hw with rfl | rfl | rfl | rfl
        · exact w1
        · exact w2
        · exact w3
        · exact w4
      · rcases List.mem_cons.mp hw with rfl | hw
        · exact w5
        · exact hw)) rfl rfl rfl ⟨rfl, hp⟩ ⟨by show d' + 6 + 1 ≤ d + 6; omega, by show 8 + (nL' + 11) + (60 * d' + 300) ≤ 60 * d + 300; omega⟩
  refine ⟨_, vx_runV (As := vs.map (xcv ad)) (b := ad b) (rest := st.map (xcv ad)) (nL := u.2.2.1) (cc := u.2.1) ⟨hx, hb, hml, hown, hts⟩ (hM ad h3) hcw ⟨xblind, va_recv hK.1 h5.1 hC.1 (q0 := b) (by rw [xws_get hbn, xcell_o hb0]), xpre hK hH h6 h5⟩ rfl (by rw [List.length_map]; exact hn) h4.1 ?_ ?_ hd ⟨h7, h8⟩⟩
  · subst hs0
    show List.map (xcv ad) _ = _
    rw [List.map_append, List.map_reverse]
    rfl
  · refine lv_room (?_ : ((st.map (xcv ad)).map fun v => v.category).sum ≤ 8)
    rw [List.map_map]
    have : ((fun v : Value => v.category) ∘ xcv ad) = Value.category := funext fun v => xcv_cat
    rw [this]; exact hW
theorem xv_callS {n d' nL' kc' ks' kc0 ks0 idx : Nat} {y : MethodName} {cc' : ByteArray} {ret' : Option FieldType} {Qr' : Option Value → xS → Prop} {Qx' : Nat → xS → Prop} {vs st0 : List Value}
    (hM : Ct l G y cc' nL' ret' d' Qr' Qx' kc' ks' vs σ)
    (w1 : Cond.methodLink u.1 idx y ∈ xw) (w2 : Cond.static y ∈ xw) (w4 : Cond.initialized y.cls ∈ xw) (w5 : Cond.code y cc' nL' ret' ∈ xw)
    (hp : y.cls ≠ "java/lang/invoke/MethodHandle" ∧ y.cls ≠ "java/lang/invoke/VarHandle" ∧ (parseMethodDescriptor y.desc).map (fun d => d.parameters.length) = some n) (hn : vs.length = n) (hdl : d' < d) (hnl : nL' ≤ 41)
    (hW : (st.map Value.category).sum ≤ 8) (hd : decode u.2.1 pc = .ok (.invokestatic idx, 3)) (hs0 : st0 = vs.reverse ++ st)
    (hkc : kc + kc' ≤ kc0) (hks : ks + ks' ≤ ks0)
    (hok : xkp Qr' Qx' ls st σ)
    (kr : ∀ v σ', Qr' v σ' → σ.1.1 ≤ σ'.1.1 → Ev l G u d Qr Qx kc ks (pc + 3) ls (v.toList ++ st) σ')
    (kx : ∀ k σ', Qx' k σ' → k < 3 → σ.1.1 ≤ σ'.1.1 → Xv l G u d Qr Qx kc ks pc ls st σ' k) : Ev l G u d Qr Qx kc0 ks0 pc ls st0 σ := by
  refine xv_run (n := n) (y := y) ?_ hkc hks hok kr kx
  intro p e s m args below meth c C9 ad H locs cells slots mc ms lsA h3 h4 h5 h6 h7 h8
  obtain ⟨hx, hb, hr, hml, hts, hown, hlocks, hfl, htab, hnm, hK, hH⟩ := C9
  have hcw : CallB (xR d mc ms) s args u.1 idx y cc' nL' ret' (.code y cc' nL' ret' :: xw) (xR d' kc' ks') kc' ks' n ∧ (Cond.static y).before args s = true :=
    va_cwS n hts (xw_in (fun w hw => by
      rcases List.mem_append.mp hw with hw | hw
      · simp only [List.mem_cons, List.not_mem_nil, or_false] at hw
        rcases hw with rfl | rfl | rfl
        · exact w1
        · exact w2
        · exact w4
      · rcases List.mem_cons.mp hw with rfl | hw
        · exact w5
        · exact hw)) rfl rfl rfl hp ⟨by show d' + 6 + 1 ≤ d + 6; omega, by show 8 + (nL' + 11) + (60 * d' + 300) ≤ 60 * d + 300; omega⟩
  refine ⟨_, vx_runS (As := vs.map (xcv ad)) (rest := st.map (xcv ad)) (nL := u.2.2.1) (cc := u.2.1) ⟨hx, hb, hml, hown, hts⟩ (hM ad h3) hcw ⟨xblind, xpre hK hH h6 h5⟩ rfl (by rw [List.length_map]; exact hn) h4.1 ?_ ?_ hd ⟨h7, h8⟩⟩
  · subst hs0
    show List.map (xcv ad) _ = _
    rw [List.map_append, List.map_reverse]
  · refine lv_room (?_ : ((st.map (xcv ad)).map fun v => v.category).sum ≤ 8)
    rw [List.map_map]
    have : ((fun v : Value => v.category) ∘ xcv ad) = Value.category := funext fun v => xcv_cat
    rw [this]; exact hW
theorem xv_callSN {n d' nL' kc' ks' kc0 ks0 idx : Nat} {y : MethodName} {cc' : ByteArray} {ret' : Option FieldType} {Qr' : Option Value → xS → Prop} {Qx' : Nat → xS → Prop} {vs st0 : List Value}
    (hM : Ct l G y cc' nL' ret' d' Qr' Qx' kc' ks' vs σ)
    (w1 : ∀ U, xK G U → va_Nw (.methodLinkNest u.1 idx y RX11) U) (w2 : Cond.static y ∈ xw) (w4 : Cond.initialized y.cls ∈ xw) (w5 : Cond.code y cc' nL' ret' ∈ xw)
    (hp : y.cls ≠ "java/lang/invoke/MethodHandle" ∧ y.cls ≠ "java/lang/invoke/VarHandle" ∧ (parseMethodDescriptor y.desc).map (fun d => d.parameters.length) = some n) (hn : vs.length = n) (hdl : d' < d) (hnl : nL' ≤ 41)
    (hW : (st.map Value.category).sum ≤ 8) (hd : decode u.2.1 pc = .ok (.invokestatic idx, 3)) (hs0 : st0 = vs.reverse ++ st)
    (hkc : kc + kc' ≤ kc0) (hks : ks + ks' ≤ ks0)
    (hok : xkp Qr' Qx' ls st σ)
    (kr : ∀ v σ', Qr' v σ' → σ.1.1 ≤ σ'.1.1 → Ev l G u d Qr Qx kc ks (pc + 3) ls (v.toList ++ st) σ')
    (kx : ∀ k σ', Qx' k σ' → k < 3 → σ.1.1 ≤ σ'.1.1 → Xv l G u d Qr Qx kc ks pc ls st σ' k) : Ev l G u d Qr Qx kc0 ks0 pc ls st0 σ := by
  refine xv_run (n := n) (y := y) ?_ hkc hks hok kr kx
  intro p e s m args below meth c C9 ad H locs cells slots mc ms lsA h3 h4 h5 h6 h7 h8
  obtain ⟨hx, hb, hr, hml, hts, hown, hlocks, hfl, htab, hnm, hK, hH⟩ := C9
  have hcw : va_CN (xR d mc ms) s args u.1 idx y RX11 cc' nL' ret' (.code y cc' nL' ret' :: xw) (xR d' kc' ks') kc' ks' n ∧ (Cond.static y).before args s = true ∧ True :=
    ⟨va_cnB n hts (xw_in (fun w hw => by
      rcases List.mem_cons.mp hw with rfl | hw
      · exact w5
      · exact hw)) rfl rfl rfl (w1 s hK) (hts _ w4) hp ⟨by show d' + 6 + 1 ≤ d + 6; omega, by show 8 + (nL' + 11) + (60 * d' + 300) ≤ 60 * d + 300; omega⟩, hts _ w2, trivial⟩
  refine ⟨_, vx_runSN (As := vs.map (xcv ad)) (rest := st.map (xcv ad)) (nL := u.2.2.1) (cc := u.2.1) ⟨hx, hb, hml, hown, hts⟩ (hM ad h3) hcw ⟨xblind, xpre hK hH h6 h5⟩ rfl (by rw [List.length_map]; exact hn) h4.1 ?_ ?_ hd ⟨h7, h8⟩⟩
  · subst hs0
    show List.map (xcv ad) _ = _
    rw [List.map_append, List.map_reverse]
  · refine lv_room (?_ : ((st.map (xcv ad)).map fun v => v.category).sum ≤ 8)
    rw [List.map_map]
    have : ((fun v : Value => v.category) ∘ xcv ad) = Value.category := funext fun v => xcv_cat
    rw [this]; exact hW
/-- ends -/
theorem xv_iret {x : Int32} (hr0 : u.2.2.2.1 = some .int) (hd : decode u.2.1 pc = .ok (.ireturn, 1)) (h : Qr (some (.int x)) σ) : Ev l G u d Qr Qx kc ks pc ls [.int x] σ := by
  intro p e s m args below meth c9 C9 n0 ad0 ad H locs cells slots mc ms lsA h1 h2 h3 h4 h5 h6 h7 h8
  obtain ⟨hx, hb, hr, hml, hts, hown, hlocks, hfl, htab, hnm, hK, hH⟩ := C9
  refine W.widen (k := mc) (n := ms) (by omega) (by omega) (vx_ret ?_)
  exact W.iret hx hb (hr.trans hr0) (fun t ht hW => ⟨⟨some (.int x), σ, ad, rfl, h, h1, h2, by rw [ht]; exact h5⟩, h6.F ht⟩) (xS_free h6) hd hlocks
theorem xv_zret {x : Int32} (hr0 : u.2.2.2.1 = some .boolean) (hz : x = 0 ∨ x = 1) (hd : decode u.2.1 pc = .ok (.ireturn, 1)) (h : Qr (some (.int x)) σ) : Ev l G u d Qr Qx kc ks pc ls [.int x] σ := by
  intro p e s m args below meth c9 C9 n0 ad0 ad H locs cells slots mc ms lsA h1 h2 h3 h4 h5 h6 h7 h8
  obtain ⟨hx, hb, hr, hml, hts, hown, hlocks, hfl, htab, hnm, hK, hH⟩ := C9
  refine W.widen (k := mc) (n := ms) (by omega) (by omega) (vx_ret ?_)
  exact W.zret hx hb (hr.trans hr0) (by rcases hz with rfl | rfl <;> rfl) (fun t ht hW => ⟨⟨some (.int x), σ, ad, rfl, h, h1, h2, by rw [ht]; exact h5⟩, h6.F ht⟩) (xS_free h6) hd hlocks
theorem xv_lret {x : Int64} (hr0 : u.2.2.2.1 = some .long) (hd : decode u.2.1 pc = .ok (.lreturn, 1)) (h : Qr (some (.long x)) σ) : Ev l G u d Qr Qx kc ks pc ls [.long x] σ := by
  intro p e s m args below meth c9 C9 n0 ad0 ad H locs cells slots mc ms lsA h1 h2 h3 h4 h5 h6 h7 h8
  obtain ⟨hx, hb, hr, hml, hts, hown, hlocks, hfl, htab, hnm, hK, hH⟩ := C9
  refine W.widen (k := mc) (n := ms) (by omega) (by omega) (vx_ret ?_)
  exact W.lret hx hb (hr.trans hr0) (fun t ht hW => ⟨⟨some (.long x), σ, ad, rfl, h, h1, h2, by rw [ht]; exact h5⟩, h6.F ht⟩) (xS_free h6) hd hlocks
theorem xv_dret {x : UInt64} (hr0 : u.2.2.2.1 = some .double) (hd : decode u.2.1 pc = .ok (.dreturn, 1)) (h : Qr (some (.double x)) σ) : Ev l G u d Qr Qx kc ks pc ls [.double x] σ := by
  intro p e s m args below meth c9 C9 n0 ad0 ad H locs cells slots mc ms lsA h1 h2 h3 h4 h5 h6 h7 h8
  obtain ⟨hx, hb, hr, hml, hts, hown, hlocks, hfl, htab, hnm, hK, hH⟩ := C9
  refine W.widen (k := mc) (n := ms) (by omega) (by omega) (vx_ret ?_)
  exact W.dret hx hb (hr.trans hr0) (fun t ht hW => ⟨⟨some (.double x), σ, ad, rfl, h, h1, h2, by rw [ht]; exact h5⟩, h6.F ht⟩) (xS_free h6) hd hlocks
theorem xv_aret {x : Nat} {C : String} (hr0 : u.2.2.2.1 = some (.object C)) (hd : decode u.2.1 pc = .ok (.areturn, 1)) (h : Qr (some (.ref x)) σ) : Ev l G u d Qr Qx kc ks pc ls [.ref x] σ := by
  intro p e s m args below meth c9 C9 n0 ad0 ad H locs cells slots mc ms lsA h1 h2 h3 h4 h5 h6 h7 h8
  obtain ⟨hx, hb, hr, hml, hts, hown, hlocks, hfl, htab, hnm, hK, hH⟩ := C9
  refine W.widen (k := mc) (n := ms) (by omega) (by omega) (vx_ret ?_)
  exact W.aret hx hb (hr.trans hr0) (Or.inl ⟨C, rfl⟩) (Or.inr ⟨_, rfl⟩) (fun t ht hW => ⟨⟨some (.ref x), σ, ad, rfl, h, h1, h2, by rw [ht]; exact h5⟩, h6.F ht⟩) (xS_free h6) hd hlocks
theorem xv_vret (hr0 : u.2.2.2.1 = none) (hd : decode u.2.1 pc = .ok (.return_, 1)) (h : Qr none σ) : Ev l G u d Qr Qx kc ks pc ls [] σ := by
  intro p e s m args below meth c9 C9 n0 ad0 ad H locs cells slots mc ms lsA h1 h2 h3 h4 h5 h6 h7 h8
  obtain ⟨hx, hb, hr, hml, hts, hown, hlocks, hfl, htab, hnm, hK, hH⟩ := C9
  refine W.widen (k := mc) (n := ms) (by omega) (by omega) (vx_ret ?_)
  exact W.vret hx hb (hr.trans hr0) (fun t ht hW => ⟨⟨none, σ, ad, rfl, h, h1, h2, by rw [ht]; exact h5⟩, h6.F ht⟩) (xS_free h6) hd hlocks
/-- not caught: out to the caller -/
theorem xx_out {k : Nat} (hk : k < 3) (htab0 : u.2.2.2.2.1 = []) (h : Qx k σ) : Xv l G u d Qr Qx kc ks pc ls st σ k := by
  intro p e s m args below meth c9 C9 n0 ad0 ad H locs cells slots mc ms lsA q ce h1 h2 h3 h4 h5 h6 h7 h8 h9 h10 h11
  obtain ⟨hx, hb, hr, hml, hts, hown, hlocks, hfl, htab, hnm, hK, hH⟩ := C9
  exact vx_out (by rw [htab, htab0]; intro x hx; cases hx) hlocks h9 h10 h11 (fun t ht hW => ⟨⟨k, σ, ad, rfl, hk, h, h1, h2, by rw [ht]; exact h5⟩, h6.F ht⟩) (xS_free h6) (by omega) (by omega)
/-- the entry -/
def xsl : List Value → List (Option Value)
  | [] => []
  | v :: vs => some v :: (if v.category = 2 then none :: xsl vs else xsl vs)
theorem xsl_get (ad : Nat → Nat) : ∀ (vs : List Value) (n j : Nat) (w : Value), (xsl vs)[j]? = some (some w) → (n + j, xcv ad w) ∈ lv_args n (vs.map (xcv ad))
  | [], n, j, w, h => by simp [xsl] at h
  | v :: vs, n, j, w, h => by
    cases j with
    | zero =>
      simp [xsl] at h
      subst h
      exact List.mem_cons_self
    | succ j =>
      simp only [xsl, List.getElem?_cons_succ] at h
      show _ ∈ (n, xcv ad v) :: lv_args _ _
      refine List.mem_cons_of_mem _ ?_
      rw [xcv_cat]
      by_cases q : v.category = 2
      · rw [if_pos q] at h ⊢
        cases j with
        | zero => simp at h
        | succ j =>
          have := xsl_get ad vs (n + 2) j w (by simpa using h)
          rwa [show n + (j + 1 + 1) = n + 2 + j by omega]
      · rw [if_neg q] at h ⊢
        have := xsl_get ad vs (n + 1) j w h
        rwa [show n + (j + 1) = n + 1 + j by omega]
theorem xct_of {y : MethodName} {cc : ByteArray} {nL : Nat} {ret : Option FieldType} {vs : List Value} {ls : List (Option Value)} (hl : l.stackTraces = false) (hy : plainName y.cls = true) (hlen : (lg_sl vs).length ≤ nL) (hls : ∀ (i : Nat) (v : Value), ls[i]? = some (some v) → (xsl vs)[i]? = some (some v))
    (h : Ev l G (y.cls, cc, nL, ret, [], y.name) d Qr Qx kc ks 0 ls [] σ) : Ct l G y cc nL ret d Qr Qx kc ks vs σ := by
  intro ad had
  refine vx_ofW (cc := cc) (maxL := nL) (ret := ret) hy rfl ?_
  intro p e s m args below meth c s₁ B hml htab hv
  obtain ⟨rfl, hK, hH, hP⟩ := hv
  have hts := atoms_spec (ws := .code y cc nL ret :: xw) B.pre
  have hC : xC l G (y.cls, cc, nL, ret, [], y.name) p s m (vs.map (xcv ad)).toArray meth c :=
    ⟨B.exec, B.bytes, B.returns, hml, fun w hw => hts w (List.mem_cons_of_mem _ hw), findClass_of_methodNamed B.named, B.notSynchronized, hl, List.eq_nil_iff_forall_not_mem.mpr (fun x hx => htab x hx), (name_of_methodNamed B.named B.method).1, hK, hH⟩
  have hlen2 : (lg_sl (vs.map (xcv ad))).length ≤ nL := by
    have : ∀ vs : List Value, (lg_sl (vs.map (xcv ad))).length = (lg_sl vs).length := by
      intro vs
      unfold lg_sl
      induction vs with
      | nil => rfl
      | cons v vs ih =>
        simp only [List.map_cons, List.flatMap_cons, List.length_append, xcv_cat, ih]
        by_cases q : v.category = 2 <;> simp [q]
    rw [this]; exact hlen
  have hle := lv_entry (vs.map (xcv ad)) (n := nL) hlen2
  rw [lg_entry_eq]
  refine h p e s m _ below meth c hC σ.1.1 ad ad s.heap [] 0 0 kc ks _ (Nat.le_refl _) xE.refl had ⟨hle.1, hle.2.1, fun i v hi => ?_⟩ hP va_S.rf (by omega) (by omega)
  have := xsl_get ad vs 0 i v (hls i v hi)
  rw [Nat.zero_add] at this
  exact hle.2.2 _ this
end XCALL
