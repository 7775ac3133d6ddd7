/-- a new cell -/
def xnew (σ : xS) (K : Nat ⊕ (Nat × Nat)) : xS := ((σ.1.1 + 1, fun c => if c = σ.1.1 then K else σ.1.2.1 c, fun a b => if a = σ.1.1 then none else σ.1.2.2 a b), fun a b => if a = σ.1.1 then 0 else σ.2 a b)
def xadn (σ : xS) (ad : Nat → Nat) (q : Nat) : Nat → Nat := fun c => if c = σ.1.1 then q else ad c
theorem xadn_old {σ : xS} {ad : Nat → Nat} {q c : Nat} (h : c < σ.1.1 ∨ c = xSCR) (hn : σ.1.1 < xSCR) : xadn σ ad q c = ad c := by
  unfold xadn
  rw [if_neg (by omega)]
theorem xcell_old {cA : Nat → ClassId} {σ : xS} {K : Nat ⊕ (Nat × Nat)} {ad : Nat → Nat} {q c : Nat} (hc : c < σ.1.1) (hn : σ.1.1 < xSCR) (hr : ∀ j c', σ.1.2.2 c j = some c' → c' < σ.1.1) : xcell cA (xnew σ K) (xadn σ ad q) c = xcell cA σ ad c := by
  have hne : c ≠ σ.1.1 := by omega
  have e1 : (xnew σ K).1.2.1 c = σ.1.2.1 c := if_neg hne
  have e2 : (xnew σ K).2 c = σ.2 c := funext fun b => if_neg hne
  have e3 : (xnew σ K).1.2.2 c = σ.1.2.2 c := funext fun b => if_neg hne
  have e4 : ∀ j, (σ.1.2.2 c j).map (xadn σ ad q) = (σ.1.2.2 c j).map ad := by
    intro j
    cases h : σ.1.2.2 c j with
    | none => rfl
    | some c' => exact congrArg some (xadn_old (Or.inl (hr j c' h)) hn)
  unfold xcell
  rw [e1, e2, e3]
  cases hk : σ.1.2.1 c with
  | inl ci =>
    show Sum.inr (ci, xflds _ _ _ _) = Sum.inr (ci, xflds _ _ _ _)
    have : xflds (xadn σ ad q) ci (σ.2 c) (σ.1.2.2 c) = xflds ad ci (σ.2 c) (σ.1.2.2 c) := by
      unfold xflds
      refine List.map_congr_left (fun j _ => ?_)
      unfold xdec
      rw [e4]
    rw [this]
  | inr x =>
    obtain ⟨a, n⟩ := x
    show Sum.inl (cA a, n, xarr _ _ _ _) = Sum.inl (cA a, n, xarr _ _ _ _)
    have : xarr (xadn σ ad q) a (σ.2 c) (σ.1.2.2 c) = xarr ad a (σ.2 c) (σ.1.2.2 c) := by
      unfold xarr
      simp only [e4]
    rw [this]
theorem xws_new {cA : Nat → ClassId} {σ : xS} {K : Nat ⊕ (Nat × Nat)} {ad : Nat → Nat} {q : Nat} (hn : σ.1.1 < xSCR) (hr : ∀ c j c', c < σ.1.1 → σ.1.2.2 c j = some c' → c' < σ.1.1) : xws cA (xnew σ K) (xadn σ ad q) = xws cA σ ad ++ [(q, xcell cA (xnew σ K) (xadn σ ad q) σ.1.1)] := by
  unfold xws
  show List.map _ (List.range (σ.1.1 + 1)) = _
  rw [List.range_succ, List.map_append]
  congr 1
  · refine List.map_congr_left (fun c hc => ?_)
    have hc := List.mem_range.mp hc
    rw [xadn_old (Or.inl hc) hn, xcell_old hc hn (fun j c' => hr c j c' hc)]
  · show [(xadn σ ad q σ.1.1, _)] = _
    rw [show xadn σ ad q σ.1.1 = q from if_pos rfl]
theorem xP.push {G : xG} {σ : xS} {K : Nat ⊕ (Nat × Nat)} {ad : Nat → Nat} {q : Nat} {H H1 : Heap} {e : va_E} (h : xP G σ ad H) (hn : σ.1.1 + 1 < xSCR) (he : xcell G.2.1 (xnew σ K) (xadn σ ad q) σ.1.1 = e) (hP : va_P G.1 vwCl (xws G.2.1 σ ad ++ [(q, e)]) H1) (hD : va_D (xA G) (xws G.2.1 σ ad ++ [(q, e)])) : xP G (xnew σ K) (xadn σ ad q) H1 := by
  subst he
  rw [← xws_new h.2.2.1 h.2.2.2.2] at hP hD
  refine ⟨hP, hD, hn, fun c hc => ?_, fun c j c' hc hj => ?_⟩
  · show (if c = σ.1.1 then K else σ.1.2.1 c) = _
    have hc : σ.1.1 + 1 ≤ c := hc
    rw [if_neg (by omega)]
    exact h.2.2.2.1 c (by omega)
  · have hc : c < σ.1.1 + 1 := hc
    have hj : (if c = σ.1.1 then none else σ.1.2.2 c j) = some c' := hj
    show c' < σ.1.1 + 1
    by_cases z : c = σ.1.1
    · rw [if_pos z] at hj; cases hj
    · rw [if_neg z] at hj
      have := h.2.2.2.2 c j c' (by omega) hj
      omega
theorem xE.push {n0 : Nat} {ad0 ad : Nat → Nat} {σ : xS} {q : Nat} (h : xE n0 ad0 σ.1.1 ad) (hn : n0 ≤ σ.1.1) (hs : σ.1.1 < xSCR) : xE n0 ad0 (σ.1.1 + 1) (xadn σ ad q) :=
  ⟨fun c hc => by rw [xadn_old (hc.elim (fun z => Or.inl (Nat.lt_of_lt_of_le z hn)) Or.inr) hs]; exact h.1 c hc, fun z => by omega⟩
theorem xLs.push {lsA : Array Slot} {nL : Nat} {σ : xS} {ad : Nat → Nat} {q : Nat} {ls : List (Option Value)} (h : xLs lsA nL ad ls) (hs : σ.1.1 < xSCR) (hok : ∀ v, some v ∈ ls → xokv σ.1.1 v) : xLs lsA nL (xadn σ ad q) ls := ⟨h.1, h.2.1, fun i v hv => by
  have : xcv (xadn σ ad q) v = xcv ad v := by
    have h9 := hok v (List.mem_of_getElem? hv)
    cases v with
    | ref c => exact congrArg Value.ref (xadn_old h9 hs)
    | _ => rfl
  rw [this]; exact h.2.2 i v hv⟩
theorem xst_push {σ : xS} {ad : Nat → Nat} {q : Nat} {st : List Value} (hs : σ.1.1 < xSCR) (hok : ∀ v ∈ st, xokv σ.1.1 v) : st.map (xcv ad) = st.map (xcv (xadn σ ad q)) := List.map_congr_left (fun v hv => by
  have h9 := hok v hv
  cases v with
  | ref c => exact (congrArg Value.ref (xadn_old h9 hs)).symm
  | _ => rfl)
section XALLOC
variable {l : Launch} {G : xG} {u : xU} {d : Nat} {Qr : Option Value → xS → Prop} {Qx : Nat → xS → Prop} {kc ks kc0 ks0 pc : Nat} {ls : List (Option Value)} {st : List Value} {σ : xS}
theorem xv_new {ci idx N : Nat} {C : String} {T : u_T} (hC : xCl ci C T N) (ty : Nat → FieldType) (hty : ∀ k, k < N → parseFieldDescriptor (T k).2.2.1 = some (ty k)) (hdef : ∀ j, j < N → defaultValue (ty j) = xdec id ((xft ci).getD j 9) 0 none)
    (w1 : Cond.classLink u.1 idx C ∈ xw) (w2 : Cond.instantiable C N ∈ xw) (w3 : Cond.initialized C ∈ xw) (hd : decode u.2.1 pc = .ok (.new idx, 3)) (hn : σ.1.1 + 1 < xSCR) (hkc : kc + 1 ≤ kc0) (hks : ks + N ≤ ks0)
    (hst : ∀ v ∈ st, xokv σ.1.1 v) (hls : ∀ v, some v ∈ ls → xokv σ.1.1 v) (K : Ev l G u d Qr Qx kc ks (pc + 3) ls (.ref σ.1.1 :: st) (xnew σ (.inl ci))) : Ev l G u d Qr Qx kc0 ks0 pc ls st σ := by
  intro p e s m args below meth c9 C9 n0 ad0 ad H locs cells slots mc ms lsA h1 h2 h3 h4 h5 h6 h7 h8
  have C' := C9
  obtain ⟨hx, hb, hr, hml, hts, hown, hlocks, hfl, htab, hnm, hK, hH⟩ := C'
  refine va_new (ci := ci) (fs := xflds ad ci (fun _ => 0) (fun _ => none)) hx hb hts hC.2.1 ty hty hown (hts _ w1) (hts _ w2) (hts _ w3) hK.1 h5.1 h5.2.1 h6 (fun q hq => Nat.le_trans hH.2.2.2 hq) hC.1 (fun j hj => ?_) (by show cells + 1 ≤ mc; omega) (by show slots + N ≤ ms; omega) hd (fun q H1 hP1 hD1 hS1 => ?_)
  · have hj' : j < (xft ci).length := by rw [hC.2.2.2.2.1]; exact hj
    unfold vp_V
    rw [List.getD_eq_getElem?_getD, xflds_get (t := (xft ci)[j]) (List.getElem?_eq_getElem hj'), hdef j hj, List.getD_eq_getElem?_getD, List.getElem?_eq_getElem hj']
    show xdec id ((xft ci)[j]) 0 none = xdec ad ((xft ci)[j]) 0 none
    unfold xdec
    rfl
  · have hs : σ.1.1 < xSCR := h5.2.2.1
    have hP' : xP G (xnew σ (.inl ci)) (xadn σ ad q) H1 := h5.push (K := .inl ci) (q := q) hn (by
      rw [xcell_o (ci := ci) (show (if σ.1.1 = σ.1.1 then _ else _) = _ from if_pos rfl)]
      have e2 : (xnew σ (.inl ci)).2 σ.1.1 = fun _ => 0 := funext fun b => if_pos rfl
      have e3 : (xnew σ (.inl ci)).1.2.2 σ.1.1 = fun _ => none := funext fun b => if_pos rfl
      rw [e2, e3]
      rfl) hP1 hD1
    have K' := K p e s m args below meth c9 C9 n0 ad0 (xadn σ ad q) H1 locs (cells + 1) (slots + N) mc ms lsA (Nat.le_trans h1 (Nat.le_succ _)) (h2.push h1 hs) (by rw [xadn_old (Or.inr rfl) hs]; exact h3) (h4.push hs hls) hP' hS1 (by omega) (by omega)
    have e : (Value.ref σ.1.1 :: st).map (xcv (xadn σ ad q)) = .ref q :: st.map (xcv ad) := by
      rw [xst_push (ad := ad) (q := q) hs hst]
      show Value.ref (xadn σ ad q σ.1.1) :: _ = _
      rw [show xadn σ ad q σ.1.1 = q from if_pos rfl]
    rw [e] at K'
    exact K'

theorem xv_newa_i {x : Int32} {n : Nat} (w1 : Cond.arrayClass .int ∈ xw) (hd : decode u.2.1 pc = .ok (.newarray .int, 2)) (hx0 : ¬ x < 0) (hxn : x.toNatClampNeg = n) (hbig : n * 8 ≤ 536870912) (hn : σ.1.1 + 1 < xSCR) (hkc : kc + 1 ≤ kc0) (hks : ks + n ≤ ks0)
    (hst : ∀ v ∈ st, xokv σ.1.1 v) (hls : ∀ v, some v ∈ ls → xokv σ.1.1 v) (K : Ev l G u d Qr Qx kc ks (pc + 2) ls (.ref σ.1.1 :: st) (xnew σ (.inr (0, n)))) : Ev l G u d Qr Qx kc0 ks0 pc ls (.int x :: st) σ := by
  intro p e s m args below meth c9 C9 n0 ad0 ad H locs cells slots mc ms lsA h1 h2 h3 h4 h5 h6 h7 h8
  have C' := C9
  obtain ⟨hx, hb, hr, hml, hts, hown, hlocks, hfl, htab, hnm, hK, hH⟩ := C'
  refine va_newa (atype := .int) (ty := .int) (N' := n) (a0 := (n, .inl (fun _ => 0))) hx hb (hts _ w1) rfl hK.1 h5.1 h5.2.1 h6 (fun q hq => Nat.le_trans hH.2.2.2 hq) (fun _ => rfl) hx0 hxn (by show n * _ ≤ 536870912; exact Nat.le_trans (Nat.mul_le_mul_left n (show componentBytes .int ≤ 8 by decide)) hbig) (by show cells + 1 ≤ mc; omega) (by show slots + n ≤ ms; omega) hd (fun q cA H1 hK1 hP1 hD1 hS1 => ?_)
  have hcA : cA = G.2.1 0 := by
    have e1 := (hK1.2 (xtys G.2.1).length (cA, .int) (by rw [List.getElem?_append_right (Nat.le_refl _), Nat.sub_self]; rfl)).2
    have e2 := (hK.1.2 0 _ (xtys_get (by decide))).2
    exact Option.some.inj (e1.symm.trans e2)
  subst hcA
  have hs : σ.1.1 < xSCR := h5.2.2.1
  have hP' : xP G (xnew σ (.inr (0, n))) (xadn σ ad q) H1 := h5.push (K := .inr (0, n)) (q := q) hn (by
    rw [xcell_a (a := 0) (n := n) (show (if σ.1.1 = σ.1.1 then _ else _) = _ from if_pos rfl)]
    have e2 : (xnew σ (.inr (0, n))).2 σ.1.1 = fun _ => 0 := funext fun b => if_pos rfl
    rw [e2]
    rfl) hP1 hD1
  have K' := K p e s m args below meth c9 C9 n0 ad0 (xadn σ ad q) H1 locs (cells + 1) (slots + n) mc ms lsA (Nat.le_trans h1 (Nat.le_succ _)) (h2.push h1 hs) (by rw [xadn_old (Or.inr rfl) hs]; exact h3) (h4.push hs hls) hP' hS1 (by omega) (by omega)
  have e : (Value.ref σ.1.1 :: st).map (xcv (xadn σ ad q)) = .ref q :: st.map (xcv ad) := by
    rw [xst_push (ad := ad) (q := q) hs hst]
    show Value.ref (xadn σ ad q σ.1.1) :: _ = _
    rw [show xadn σ ad q σ.1.1 = q from if_pos rfl]
  rw [e] at K'
  exact K'

theorem xv_newa_l {x : Int32} {n : Nat} (w1 : Cond.arrayClass .long ∈ xw) (hd : decode u.2.1 pc = .ok (.newarray .long, 2)) (hx0 : ¬ x < 0) (hxn : x.toNatClampNeg = n) (hbig : n * 8 ≤ 536870912) (hn : σ.1.1 + 1 < xSCR) (hkc : kc + 1 ≤ kc0) (hks : ks + n ≤ ks0)
    (hst : ∀ v ∈ st, xokv σ.1.1 v) (hls : ∀ v, some v ∈ ls → xokv σ.1.1 v) (K : Ev l G u d Qr Qx kc ks (pc + 2) ls (.ref σ.1.1 :: st) (xnew σ (.inr (1, n)))) : Ev l G u d Qr Qx kc0 ks0 pc ls (.int x :: st) σ := by
  intro p e s m args below meth c9 C9 n0 ad0 ad H locs cells slots mc ms lsA h1 h2 h3 h4 h5 h6 h7 h8
  have C' := C9
  obtain ⟨hx, hb, hr, hml, hts, hown, hlocks, hfl, htab, hnm, hK, hH⟩ := C'
  refine va_newa (atype := .long) (ty := .long) (N' := n) (a0 := (n, .inr (.inl (fun _ => 0)))) hx hb (hts _ w1) rfl hK.1 h5.1 h5.2.1 h6 (fun q hq => Nat.le_trans hH.2.2.2 hq) (fun _ => rfl) hx0 hxn (by show n * _ ≤ 536870912; exact Nat.le_trans (Nat.mul_le_mul_left n (show componentBytes .long ≤ 8 by decide)) hbig) (by show cells + 1 ≤ mc; omega) (by show slots + n ≤ ms; omega) hd (fun q cA H1 hK1 hP1 hD1 hS1 => ?_)
  have hcA : cA = G.2.1 1 := by
    have e1 := (hK1.2 (xtys G.2.1).length (cA, .long) (by rw [List.getElem?_append_right (Nat.le_refl _), Nat.sub_self]; rfl)).2
    have e2 := (hK.1.2 1 _ (xtys_get (by decide))).2
    exact Option.some.inj (e1.symm.trans e2)
  subst hcA
  have hs : σ.1.1 < xSCR := h5.2.2.1
  have hP' : xP G (xnew σ (.inr (1, n))) (xadn σ ad q) H1 := h5.push (K := .inr (1, n)) (q := q) hn (by
    rw [xcell_a (a := 1) (n := n) (show (if σ.1.1 = σ.1.1 then _ else _) = _ from if_pos rfl)]
    have e2 : (xnew σ (.inr (1, n))).2 σ.1.1 = fun _ => 0 := funext fun b => if_pos rfl
    rw [e2]
    rfl) hP1 hD1
  have K' := K p e s m args below meth c9 C9 n0 ad0 (xadn σ ad q) H1 locs (cells + 1) (slots + n) mc ms lsA (Nat.le_trans h1 (Nat.le_succ _)) (h2.push h1 hs) (by rw [xadn_old (Or.inr rfl) hs]; exact h3) (h4.push hs hls) hP' hS1 (by omega) (by omega)
  have e : (Value.ref σ.1.1 :: st).map (xcv (xadn σ ad q)) = .ref q :: st.map (xcv ad) := by
    rw [xst_push (ad := ad) (q := q) hs hst]
    show Value.ref (xadn σ ad q σ.1.1) :: _ = _
    rw [show xadn σ ad q σ.1.1 = q from if_pos rfl]
  rw [e] at K'
  exact K'


theorem xv_anew {x : Int32} {n a idx : Nat} {C : String} (hao : ∀ U, xK G U → va_AO C U) (ha : 3 ≤ a) (ha2 : a < 10) (hC : xtyp a = .object C) (w1 : Cond.classLink u.1 idx C ∈ xw) (hd : decode u.2.1 pc = .ok (.anewarray idx, 3)) (hx0 : ¬ x < 0) (hxn : x.toNatClampNeg = n) (hbig : n * 4 ≤ 536870912) (hn : σ.1.1 + 1 < xSCR) (hkc : kc + 1 ≤ kc0) (hks : ks + n ≤ ks0)
    (hst : ∀ v ∈ st, xokv σ.1.1 v) (hls : ∀ v, some v ∈ ls → xokv σ.1.1 v) (K : Ev l G u d Qr Qx kc ks (pc + 3) ls (.ref σ.1.1 :: st) (xnew σ (.inr (a, n)))) : Ev l G u d Qr Qx kc0 ks0 pc ls (.int x :: st) σ := by
  intro p e s m args below meth c9 C9 n0 ad0 ad H locs cells slots mc ms lsA h1 h2 h3 h4 h5 h6 h7 h8
  have C' := C9
  obtain ⟨hx, hb, hr, hml, hts, hown, hlocks, hfl, htab, hnm, hK, hH⟩ := C'
  refine va_newq (N' := n) (C := C) hx hb hown (hts _ w1) (hao s hK) hK.1 h5.1 h5.2.1 h6 (fun q hq => Nat.le_trans hH.2.2.2 hq) hx0 hxn hbig (by show cells + 1 ≤ mc; omega) (by show slots + n ≤ ms; omega) hd (fun q cA H1 hK1 hP1 hD1 hS1 => ?_)
  have hcA : cA = G.2.1 a := by
    have e1 := (hK1.2 (xtys G.2.1).length (cA, .object C) (by rw [List.getElem?_append_right (Nat.le_refl _), Nat.sub_self]; rfl)).2
    have e2 := (hK.1.2 a _ (xtys_get ha2)).2
    rw [hC] at e2
    obtain ⟨_, _, _, _, _, e3⟩ := e1
    obtain ⟨_, _, _, _, _, e4⟩ := e2
    exact Option.some.inj (e3.symm.trans e4)
  subst hcA
  have hs : σ.1.1 < xSCR := h5.2.2.1
  have hP' : xP G (xnew σ (.inr (a, n))) (xadn σ ad q) H1 := h5.push (K := .inr (a, n)) (q := q) hn (by
    rw [xcell_a (a := a) (n := n) (show (if σ.1.1 = σ.1.1 then _ else _) = _ from if_pos rfl)]
    have e2 : (xnew σ (.inr (a, n))).1.2.2 σ.1.1 = fun _ => none := funext fun b => if_pos rfl
    rw [e2]
    match a, ha with
    | a + 3, _ => rfl) hP1 hD1
  have K' := K p e s m args below meth c9 C9 n0 ad0 (xadn σ ad q) H1 locs (cells + 1) (slots + n) mc ms lsA (Nat.le_trans h1 (Nat.le_succ _)) (h2.push h1 hs) (by rw [xadn_old (Or.inr rfl) hs]; exact h3) (h4.push hs hls) hP' hS1 (by omega) (by omega)
  have e : (Value.ref σ.1.1 :: st).map (xcv (xadn σ ad q)) = .ref q :: st.map (xcv ad) := by
    rw [xst_push (ad := ad) (q := q) hs hst]
    show Value.ref (xadn σ ad q σ.1.1) :: _ = _
    rw [show xadn σ ad q σ.1.1 = q from if_pos rfl]
  rw [e] at K'
  exact K'
theorem xv_aast {c n a b k ci N : Nat} {z : Int} {C : String} {T : u_T} (hc : σ.1.2.1 c = .inr (a, n)) (ha : 3 ≤ a) (ha2 : a < 10) (hC : xtyp a = .object C) (hCl : xCl ci C T N) (hbk : σ.1.2.1 b = .inl ci) (hz : z = (k : Int)) (hk : k < n) (hn : n ≤ 2147483648) (hd : decode u.2.1 pc = .ok (.aastore, 1))
    (K : Ev l G u d Qr Qx kc ks (pc + 1) ls st ((σ.1.1, σ.1.2.1, xup σ.1.2.2 c k (some b)), σ.2)) : Ev l G u d Qr Qx kc ks pc ls (.ref b :: iv z :: .ref c :: st) σ := by
  subst hz
  intro p e s m args below meth c9 C9 n0 ad0 ad H locs cells slots mc ms lsA h1 h2 h3 h4 h5 h6 h7 h8
  have C' := C9
  obtain ⟨hx, hb, -, hml, hts, hown, hlocks, hfl, htab, hnm, hK, hH⟩ := C'
  have hcn : c < σ.1.1 := h5.lt (by rw [hc]; intro q; cases q)
  have hbn : b < σ.1.1 := h5.lt (by rw [hbk]; intro q; exact hCl.2.2.2.2.2 (Sum.inl.inj q))
  have hxa : ∀ (f : Nat → Int) (g : Nat → Option Nat), xarr ad a f g = .inr (.inr (.inr (.inr (fun j => (g j).map ad)))) := by
    intro f g
    match a, ha with
    | a + 3, _ => rfl
  refine va_astq hx hb hK.1 h5.1 h5.2.1 h6 c a b ci (r := (C, T, N)) (by rw [xws_get hcn, xcell_a hc, hxa]) (by rw [xtys_get ha2, hC]) (by rw [xws_get hbn, xcell_o hbk]) hCl.1 (xin hk hn) hd (fun H1 locs1 hP1 hD1 hS1 => ?_)
  refine K p e s m args below meth c9 C9 n0 ad0 ad H1 locs1 cells slots mc ms lsA h1 h2 h3 h4 (h5.set (σ' := ((σ.1.1, σ.1.2.1, xup σ.1.2.2 c k (some b)), σ.2)) hcn rfl rfl (fun j c' hj => ?_) (fun z hz => ⟨xup_row hz, rfl⟩) ?_ hP1 hD1) hS1 h7 h8
  · by_cases q : j = k
    · subst q
      exact Option.some.inj ((xup_same (m := σ.1.2.2) (c := c) (k := j) (v := some b)).symm.trans hj) ▸ hbn
    · exact h5.2.2.2.2 c j c' hcn ((xup_ne (m := σ.1.2.2) (c := c) (k := k) (v := some b) (fun z => q z.2)).symm.trans hj)
  · rw [xcell_a (σ := ((σ.1.1, σ.1.2.1, xup σ.1.2.2 c k (some b)), σ.2)) hc, hxa]
    have hf : (fun j => (xup σ.1.2.2 c k (some b) c j).map ad) = va_up (fun j => (σ.1.2.2 c j).map ad) (Int32.ofInt (k : Int)).toNatClampNeg (some (ad b)) := by
      rw [xclamp (Nat.lt_of_lt_of_le hk hn)]
      funext j
      by_cases q : j = k
      · subst q; simp [xup, va_up]
      · simp [xup, va_up, q]
    show Sum.inl (G.2.1 a, n, Sum.inr (Sum.inr (Sum.inr (Sum.inr (fun j => (xup σ.1.2.2 c k (some b) c j).map ad))))) = _
    rw [hf]
theorem xv_objInit {idx c : Nat} (w1 : Cond.methodLink u.1 idx Lib.objectInit ∈ xw) (w2 : Cond.instanceMethod Lib.objectInit ∈ xw) (w3 : Cond.code Lib.objectInit ⟨#[0xb1]⟩ 1 none ∈ xw) (hd : decode u.2.1 pc = .ok (.invokespecial idx, 3)) (hW : (st.map Value.category).sum ≤ 8) (K : Ev l G u d Qr Qx kc ks (pc + 3) ls st σ) : Ev l G u d Qr Qx kc ks pc ls (.ref c :: st) σ := by
  intro p e s m args below meth c9 C9 n0 ad0 ad H locs cells slots mc ms lsA h1 h2 h3 h4 h5 h6 h7 h8
  have C' := C9
  obtain ⟨hx, hb, hr, hml, hts, hown, hlocks, hfl, htab, hnm, hK, hH⟩ := C'
  refine W.objInit hx hb hown (hts _ w1) (hts _ w2) (hts _ w3) rfl (h4.1.trans hml.symm) (rest := st.map (xcv ad)) rfl hd (by show 1 ≤ d + 6; omega) ?_ (K p e s m args below meth c9 C9 n0 ad0 ad H locs cells slots mc ms lsA h1 h2 h3 h4 h5 h6 h7 h8)
  show 0 + ((st.map (xcv ad)).map fun v => v.category).sum + 12 ≤ 60 * d + 300
  rw [List.map_map]
  have : ((fun v : Value => v.category) ∘ xcv ad) = Value.category := funext fun v => xcv_cat
  rw [this]; omega

theorem xv_mmaxi0 {idx : Nat} {x y : Int32} (w1 : Cond.methodLink u.1 idx Lib.Math.max.name ∈ xw) (w2 : Cond.static Lib.Math.max.name ∈ xw) (w3 : Cond.initialized "java/lang/Math" ∈ xw) (w4 : Cond.code Lib.Math.max.name Lib.Math.max.code 2 (some .int) ∈ xw) (hd : decode u.2.1 pc = .ok (.invokestatic idx, 3)) (hW : (st.map Value.category).sum ≤ 8) (K : Ev l G u d Qr Qx kc ks (pc + 3) ls (.int (if x < y then y else x) :: st) σ) : Ev l G u d Qr Qx kc ks pc ls (.int y :: .int x :: st) σ := by
  intro p e s m args below meth c9 C9 n0 ad0 ad H locs cells slots mc ms lsA h1 h2 h3 h4 h5 h6 h7 h8
  have C' := C9
  obtain ⟨hx, hb, hr, hml, hts, hown, hlocks, hfl, htab, hnm, hK, hH⟩ := C'
  refine va_mmax hx hb (hml.trans h4.1.symm) hown (hts _ w1) (hts _ w2) (hts _ w3) (hts _ w4) (by show 1 ≤ d + 6; omega) ?_ (by show cells ≤ mc; omega) (by show slots ≤ ms; omega) hd (K p e s m args below meth c9 C9 n0 ad0 ad H locs cells slots mc ms lsA h1 h2 h3 h4 h5 h6 h7 h8)
  show ((st.map (xcv ad)).map fun v => v.category).sum + _ ≤ 60 * d + 300
  rw [List.map_map]
  have : ((fun v : Value => v.category) ∘ xcv ad) = Value.category := funext fun v => xcv_cat
  rw [this]; omega

theorem xv_mmaxi {idx : Nat} {x y : Int} (w1 : Cond.methodLink u.1 idx Lib.Math.max.name ∈ xw) (w2 : Cond.static Lib.Math.max.name ∈ xw) (w3 : Cond.initialized "java/lang/Math" ∈ xw) (w4 : Cond.code Lib.Math.max.name Lib.Math.max.code 2 (some .int) ∈ xw) (hd : decode u.2.1 pc = .ok (.invokestatic idx, 3)) (hW : (st.map Value.category).sum ≤ 8) (K : Ev l G u d Qr Qx kc ks (pc + 3) ls (iv (if w32 x < w32 y then y else x) :: st) σ) : Ev l G u d Qr Qx kc ks pc ls (iv y :: iv x :: st) σ := xv_mmaxi0 w1 w2 w3 w4 hd hW (by
  have K := K
  split at K <;> rename_i q
  · rw [if_pos (Int32.lt_iff_toInt_lt.mpr q)]; exact K
  · rw [if_neg (fun z => q (Int32.lt_iff_toInt_lt.mp z))]; exact K)

theorem xv_mmini0 {idx : Nat} {x y : Int32} (w1 : Cond.methodLink u.1 idx Lib.Math.min.name ∈ xw) (w2 : Cond.static Lib.Math.min.name ∈ xw) (w3 : Cond.initialized "java/lang/Math" ∈ xw) (w4 : Cond.code Lib.Math.min.name Lib.Math.min.code 2 (some .int) ∈ xw) (hd : decode u.2.1 pc = .ok (.invokestatic idx, 3)) (hW : (st.map Value.category).sum ≤ 8) (K : Ev l G u d Qr Qx kc ks (pc + 3) ls (.int (if y < x then y else x) :: st) σ) : Ev l G u d Qr Qx kc ks pc ls (.int y :: .int x :: st) σ := by
  intro p e s m args below meth c9 C9 n0 ad0 ad H locs cells slots mc ms lsA h1 h2 h3 h4 h5 h6 h7 h8
  have C' := C9
  obtain ⟨hx, hb, hr, hml, hts, hown, hlocks, hfl, htab, hnm, hK, hH⟩ := C'
  refine va_mmin hx hb (hml.trans h4.1.symm) hown (hts _ w1) (hts _ w2) (hts _ w3) (hts _ w4) (by show 1 ≤ d + 6; omega) ?_ (by show cells ≤ mc; omega) (by show slots ≤ ms; omega) hd (K p e s m args below meth c9 C9 n0 ad0 ad H locs cells slots mc ms lsA h1 h2 h3 h4 h5 h6 h7 h8)
  show ((st.map (xcv ad)).map fun v => v.category).sum + _ ≤ 60 * d + 300
  rw [List.map_map]
  have : ((fun v : Value => v.category) ∘ xcv ad) = Value.category := funext fun v => xcv_cat
  rw [this]; omega

theorem xv_mmini {idx : Nat} {x y : Int} (w1 : Cond.methodLink u.1 idx Lib.Math.min.name ∈ xw) (w2 : Cond.static Lib.Math.min.name ∈ xw) (w3 : Cond.initialized "java/lang/Math" ∈ xw) (w4 : Cond.code Lib.Math.min.name Lib.Math.min.code 2 (some .int) ∈ xw) (hd : decode u.2.1 pc = .ok (.invokestatic idx, 3)) (hW : (st.map Value.category).sum ≤ 8) (K : Ev l G u d Qr Qx kc ks (pc + 3) ls (iv (if w32 y < w32 x then y else x) :: st) σ) : Ev l G u d Qr Qx kc ks pc ls (iv y :: iv x :: st) σ := xv_mmini0 w1 w2 w3 w4 hd hW (by
  have K := K
  split at K <;> rename_i q
  · rw [if_pos (Int32.lt_iff_toInt_lt.mpr q)]; exact K
  · rw [if_neg (fun z => q (Int32.lt_iff_toInt_lt.mp z))]; exact K)

theorem xv_mabs0 {idx : Nat} {x : Int32} (w1 : Cond.methodLink u.1 idx Lib.Math.abs.name ∈ xw) (w2 : Cond.static Lib.Math.abs.name ∈ xw) (w3 : Cond.initialized "java/lang/Math" ∈ xw) (w4 : Cond.code Lib.Math.abs.name Lib.Math.abs.code 1 (some .int) ∈ xw) (hd : decode u.2.1 pc = .ok (.invokestatic idx, 3)) (hW : (st.map Value.category).sum ≤ 8) (K : Ev l G u d Qr Qx kc ks (pc + 3) ls (.int (if 0 ≤ x then x else 0 - x) :: st) σ) : Ev l G u d Qr Qx kc ks pc ls (.int x :: st) σ := by
  intro p e s m args below meth c9 C9 n0 ad0 ad H locs cells slots mc ms lsA h1 h2 h3 h4 h5 h6 h7 h8
  have C' := C9
  obtain ⟨hx, hb, hr, hml, hts, hown, hlocks, hfl, htab, hnm, hK, hH⟩ := C'
  refine va_mabs hx hb (hml.trans h4.1.symm) hown (hts _ w1) (hts _ w2) (hts _ w3) (hts _ w4) (by show 1 ≤ d + 6; omega) ?_ (by show cells ≤ mc; omega) (by show slots ≤ ms; omega) hd (K p e s m args below meth c9 C9 n0 ad0 ad H locs cells slots mc ms lsA h1 h2 h3 h4 h5 h6 h7 h8)
  show ((st.map (xcv ad)).map fun v => v.category).sum + _ ≤ 60 * d + 300
  rw [List.map_map]
  have : ((fun v : Value => v.category) ∘ xcv ad) = Value.category := funext fun v => xcv_cat
  rw [this]; omega

theorem xv_mabs {idx : Nat} {x : Int} (w1 : Cond.methodLink u.1 idx Lib.Math.abs.name ∈ xw) (w2 : Cond.static Lib.Math.abs.name ∈ xw) (w3 : Cond.initialized "java/lang/Math" ∈ xw) (w4 : Cond.code Lib.Math.abs.name Lib.Math.abs.code 1 (some .int) ∈ xw) (hd : decode u.2.1 pc = .ok (.invokestatic idx, 3)) (hW : (st.map Value.category).sum ≤ 8) (K : Ev l G u d Qr Qx kc ks (pc + 3) ls (iv (if 0 ≤ w32 x then x else -x) :: st) σ) : Ev l G u d Qr Qx kc ks pc ls (iv x :: st) σ := xv_mabs0 w1 w2 w3 w4 hd hW (by
  have K := K
  split at K <;> rename_i q
  · rw [if_pos ((fun q => Int32.le_iff_toInt_le.mpr (by rw [Int32.toInt_zero]; exact q) : 0 ≤ w32 x → _) q)]; exact K
  · rw [if_neg (fun z => q ((fun z => by have z := Int32.le_iff_toInt_le.mp z; rw [Int32.toInt_zero] at z; exact z : (0 : Int32) ≤ Int32.ofInt x → 0 ≤ w32 x) z))]; exact (by rw [Int32.zero_sub, ← Int32.ofInt_neg]; exact K))

theorem xv_mmaxl0 {idx : Nat} {x y : Int64} (w1 : Cond.methodLink u.1 idx Lib.MathLoose.max_long.x ∈ xw) (w2 : Cond.static Lib.MathLoose.max_long.x ∈ xw) (w3 : Cond.initialized "java/lang/Math" ∈ xw) (w4 : Cond.code Lib.MathLoose.max_long.x Lib.MathLoose.max_long.code 4 (some .long) ∈ xw) (hd : decode u.2.1 pc = .ok (.invokestatic idx, 3)) (hW : (st.map Value.category).sum ≤ 8) (K : Ev l G u d Qr Qx kc ks (pc + 3) ls (.long (if y < x then x else y) :: st) σ) : Ev l G u d Qr Qx kc ks pc ls (.long y :: .long x :: st) σ := by
  intro p e s m args below meth c9 C9 n0 ad0 ad H locs cells slots mc ms lsA h1 h2 h3 h4 h5 h6 h7 h8
  have C' := C9
  obtain ⟨hx, hb, hr, hml, hts, hown, hlocks, hfl, htab, hnm, hK, hH⟩ := C'
  refine va_mmax_long hx hb (hml.trans h4.1.symm) hown (hts _ w1) (hts _ w2) (hts _ w3) (hts _ w4) (by show 1 ≤ d + 6; omega) ?_ (by show cells ≤ mc; omega) (by show slots ≤ ms; omega) hd (K p e s m args below meth c9 C9 n0 ad0 ad H locs cells slots mc ms lsA h1 h2 h3 h4 h5 h6 h7 h8)
  show ((st.map (xcv ad)).map fun v => v.category).sum + _ ≤ 60 * d + 300
  rw [List.map_map]
  have : ((fun v : Value => v.category) ∘ xcv ad) = Value.category := funext fun v => xcv_cat
  rw [this]; omega

theorem xv_mmaxl {idx : Nat} {x y : Int} (w1 : Cond.methodLink u.1 idx Lib.MathLoose.max_long.x ∈ xw) (w2 : Cond.static Lib.MathLoose.max_long.x ∈ xw) (w3 : Cond.initialized "java/lang/Math" ∈ xw) (w4 : Cond.code Lib.MathLoose.max_long.x Lib.MathLoose.max_long.code 4 (some .long) ∈ xw) (hd : decode u.2.1 pc = .ok (.invokestatic idx, 3)) (hW : (st.map Value.category).sum ≤ 8) (K : Ev l G u d Qr Qx kc ks (pc + 3) ls (jv (if w64 y < w64 x then x else y) :: st) σ) : Ev l G u d Qr Qx kc ks pc ls (jv y :: jv x :: st) σ := xv_mmaxl0 w1 w2 w3 w4 hd hW (by
  have K := K
  split at K <;> rename_i q
  · rw [if_pos (Int64.lt_iff_toInt_lt.mpr q)]; exact K
  · rw [if_neg (fun z => q (Int64.lt_iff_toInt_lt.mp z))]; exact K)

theorem xv_mminl0 {idx : Nat} {x y : Int64} (w1 : Cond.methodLink u.1 idx Lib.MathLoose.min_long.x ∈ xw) (w2 : Cond.static Lib.MathLoose.min_long.x ∈ xw) (w3 : Cond.initialized "java/lang/Math" ∈ xw) (w4 : Cond.code Lib.MathLoose.min_long.x Lib.MathLoose.min_long.code 4 (some .long) ∈ xw) (hd : decode u.2.1 pc = .ok (.invokestatic idx, 3)) (hW : (st.map Value.category).sum ≤ 8) (K : Ev l G u d Qr Qx kc ks (pc + 3) ls (.long (if y < x then y else x) :: st) σ) : Ev l G u d Qr Qx kc ks pc ls (.long y :: .long x :: st) σ := by
  intro p e s m args below meth c9 C9 n0 ad0 ad H locs cells slots mc ms lsA h1 h2 h3 h4 h5 h6 h7 h8
  have C' := C9
  obtain ⟨hx, hb, hr, hml, hts, hown, hlocks, hfl, htab, hnm, hK, hH⟩ := C'
  refine va_mmin_long hx hb (hml.trans h4.1.symm) hown (hts _ w1) (hts _ w2) (hts _ w3) (hts _ w4) (by show 1 ≤ d + 6; omega) ?_ (by show cells ≤ mc; omega) (by show slots ≤ ms; omega) hd (K p e s m args below meth c9 C9 n0 ad0 ad H locs cells slots mc ms lsA h1 h2 h3 h4 h5 h6 h7 h8)
  show ((st.map (xcv ad)).map fun v => v.category).sum + _ ≤ 60 * d + 300
  rw [List.map_map]
  have : ((fun v : Value => v.category) ∘ xcv ad) = Value.category := funext fun v => xcv_cat
  rw [this]; omega

theorem xv_mminl {idx : Nat} {x y : Int} (w1 : Cond.methodLink u.1 idx Lib.MathLoose.min_long.x ∈ xw) (w2 : Cond.static Lib.MathLoose.min_long.x ∈ xw) (w3 : Cond.initialized "java/lang/Math" ∈ xw) (w4 : Cond.code Lib.MathLoose.min_long.x Lib.MathLoose.min_long.code 4 (some .long) ∈ xw) (hd : decode u.2.1 pc = .ok (.invokestatic idx, 3)) (hW : (st.map Value.category).sum ≤ 8) (K : Ev l G u d Qr Qx kc ks (pc + 3) ls (jv (if w64 y < w64 x then y else x) :: st) σ) : Ev l G u d Qr Qx kc ks pc ls (jv y :: jv x :: st) σ := xv_mminl0 w1 w2 w3 w4 hd hW (by
  have K := K
  split at K <;> rename_i q
  · rw [if_pos (Int64.lt_iff_toInt_lt.mpr q)]; exact K
  · rw [if_neg (fun z => q (Int64.lt_iff_toInt_lt.mp z))]; exact K)

/-- arraycopy of longs -/
def xcpy (m : xM) (c0 c1 k : Nat) : xM := fun a j => if a = c1 ∧ j < k then m c0 j else m a j
theorem xv_copyl {idx c0 c1 n0' n1' k : Nat} {z : Int} (w1 : Cond.methodLink u.1 idx arraycopyName ∈ xw) (w2 : Cond.native arraycopyName ∈ xw) (w3 : Cond.static arraycopyName ∈ xw) (w4 : Cond.initialized "java/lang/System" ∈ xw) (hc0 : σ.1.2.1 c0 = .inr (1, n0')) (hc1 : σ.1.2.1 c1 = .inr (1, n1'))
    (hz : z = (k : Int)) (g4 : k ≤ n0') (g5 : k ≤ n1') (g6 : k < 2147483648) (hd : decode u.2.1 pc = .ok (.invokestatic idx, 3)) (hW : (st.map Value.category).sum ≤ 8)
    (K : Ev l G u d Qr Qx kc ks (pc + 3) ls st (σ.1, xcpy σ.2 c0 c1 k)) : Ev l G u d Qr Qx kc ks pc ls (iv z :: iv 0 :: .ref c1 :: iv 0 :: .ref c0 :: st) σ := by
  subst hz
  intro p e s m args below meth c9 C9 n0 ad0 ad H locs cells slots mc ms lsA h1 h2 h3 h4 h5 h6 h7 h8
  have C' := C9
  obtain ⟨hx, hb, hr, hml, hts, hown, hlocks, hfl, htab, hnm, hK, hH⟩ := C'
  have hcn0 : c0 < σ.1.1 := h5.lt (by rw [hc0]; intro q; cases q)
  have hcn1 : c1 < σ.1.1 := h5.lt (by rw [hc1]; intro q; cases q)
  have hz0 : (Int32.ofInt 0).toNatClampNeg = 0 := by decide
  have hzn : ¬ Int32.ofInt 0 < 0 := by decide
  refine va_copyl hx hb (hml.trans h4.1.symm) hown (hts _ w1) (hts _ w2) (hts _ w3) (hts _ w4) hK.1 h5.1 h5.2.1 h6 c0 c1 1 1 (ty := .long) (by rw [xws_get hcn0, xcell_a hc0]; rfl) (by rw [xws_get hcn1, xcell_a hc1]; rfl) (xtys_get (by decide)) (xtys_get (by decide)) rfl hzn hzn ?_ (by rw [hz0, xclamp g6]; omega) (by rw [hz0, xclamp g6]; omega) (fun _ _ => rfl) (by show 1 ≤ d + 6; omega) ?_ hd (fun H1 locs1 hP1 hD1 hS1 => ?_)
  · rw [Int32.lt_iff_toInt_lt, Int32.toInt_ofInt_of_le (by omega) (by omega), Int32.toInt_zero]; omega
  · show ((st.map (xcv ad)).map fun v => v.category).sum + _ ≤ 60 * d + 300
    rw [List.map_map]
    have : ((fun v : Value => v.category) ∘ xcv ad) = Value.category := funext fun v => xcv_cat
    rw [this]
    have h9 : nativeFrameWords "java/lang/System" "arraycopy" 5 + 11 ≤ 200 := by decide
    omega
  · refine K p e s m args below meth c9 C9 n0 ad0 ad H1 locs1 cells slots mc ms lsA h1 h2 h3 h4 (h5.set (σ' := (σ.1, xcpy σ.2 c0 c1 k)) hcn1 rfl rfl (fun j c' hj => h5.2.2.2.2 c1 j c' hcn1 hj) (fun z hz => ⟨rfl, funext fun j => if_neg (fun q => hz q.1)⟩) ?_ hP1 hD1) hS1 h7 h8
    rw [xcell_a (σ := (σ.1, xcpy σ.2 c0 c1 k)) hc1]
    have hf : (fun j => Int64.ofInt (xcpy σ.2 c0 c1 k c1 j)) = va_cpy (fun j => Int64.ofInt (σ.2 c0 j)) (fun j => Int64.ofInt (σ.2 c1 j)) (Int32.ofInt 0).toNatClampNeg (Int32.ofInt 0).toNatClampNeg (Int32.ofInt (k : Int)).toNatClampNeg := by
      rw [hz0, xclamp g6]
      funext j
      by_cases q : j < k
      · simp [xcpy, va_cpy, q]
      · simp [xcpy, va_cpy, q]
    show Sum.inl (G.2.1 1, n1', Sum.inr (Sum.inl (fun j => Int64.ofInt (xcpy σ.2 c0 c1 k c1 j)))) = _
    rw [hf]
theorem xv_callI {n d' nL' kc' ks' b idx : Nat} {y : MethodName} {cc' : ByteArray} {Qr' : Option Value → xS → Prop} {Qx' : Nat → xS → Prop} {vs st0 : List Value}
    (hM : Ct l G y cc' nL' none d' Qr' Qx' kc' ks' (.ref b :: vs) σ) (hy1 : y.name = "<init>")
    (w1 : Cond.methodLink u.1 idx y ∈ xw) (w2 : Cond.instanceMethod y ∈ xw) (w4 : Cond.initialized y.cls ∈ xw) (w5 : Cond.code y cc' nL' none ∈ xw)
    (hp : y.cls ≠ "java/lang/invoke/MethodHandle" ∧ y.cls ≠ "java/lang/invoke/VarHandle" ∧ (parseMethodDescriptor y.desc).map (fun d => d.parameters.length) = some n) (hn : vs.length = n) (hdl : d' < d) (hnl : nL' ≤ 41)
    (hW : (st.map Value.category).sum ≤ 8) (hd : decode u.2.1 pc = .ok (.invokespecial idx, 3)) (hs0 : st0 = vs.reverse ++ .ref b :: st)
    (hkc : kc + kc' ≤ kc0) (hks : ks + ks' ≤ ks0)
    (hok : xkp Qr' Qx' ls st σ)
    (kr : ∀ v σ', Qr' v σ' → σ.1.1 ≤ σ'.1.1 → Ev l G u d Qr Qx kc ks (pc + 3) ls (v.toList ++ st) σ')
    (kx : ∀ k σ', Qx' k σ' → k < 3 → σ.1.1 ≤ σ'.1.1 → Xv l G u d Qr Qx kc ks pc ls st σ' k) : Ev l G u d Qr Qx kc0 ks0 pc ls st0 σ := by
  refine xv_run (n := n) (y := y) ?_ hkc hks hok kr kx
  intro p e s m args below meth c C9 ad H locs cells slots mc ms lsA h3 h4 h5 h6 h7 h8
  obtain ⟨hx, hb, hr, hml, hts, hown, hlocks, hfl, htab, hnm, hK, hH⟩ := C9
  have hcw : CallB (xR d mc ms) s args u.1 idx y cc' nL' none (.code y cc' nL' none :: xw) (xR d' kc' ks') kc' ks' n ∧ y.name = "<init>" ∧ (Cond.instanceMethod y).before args s = true :=
    cwI n hts (xw_in (fun w hw => by
      rcases List.mem_cons.mp hw with rfl | hw
      · exact w5
      · exact hw)) rfl rfl rfl (hts _ w4) (hts _ w1) (hts _ w2) hy1 hp ⟨by show d' + 6 + 1 ≤ d + 6; omega, by show 8 + (nL' + 11) + (60 * d' + 300) ≤ 60 * d + 300; omega⟩
  refine ⟨_, vx_runI (As := vs.map (xcv ad)) (b := ad b) (rest := st.map (xcv ad)) (nL := u.2.2.1) (cc := u.2.1) ⟨hx, hb, hml, hown, hts⟩ (hM ad h3) hcw ⟨xblind, xpre hK hH h6 h5⟩ rfl (by rw [List.length_map]; exact hn) h4.1 ?_ ?_ hd ⟨h7, h8⟩⟩
  · subst hs0
    show List.map (xcv ad) _ = _
    rw [List.map_append, List.map_reverse]
    rfl
  · refine lv_room (?_ : ((st.map (xcv ad)).map fun v => v.category).sum ≤ 8)
    rw [List.map_map]
    have : ((fun v : Value => v.category) ∘ xcv ad) = Value.category := funext fun v => xcv_cat
    rw [this]; exact hW
theorem xv_callIN {n d' nL' kc' ks' b idx : Nat} {y : MethodName} {cc' : ByteArray} {Qr' : Option Value → xS → Prop} {Qx' : Nat → xS → Prop} {vs st0 : List Value}
    (hM : Ct l G y cc' nL' none d' Qr' Qx' kc' ks' (.ref b :: vs) σ) (hy1 : y.name = "<init>")
    (w1 : ∀ U, xK G U → va_Nw (.methodLinkNest u.1 idx y RX11) U) (w2 : Cond.instanceMethod y ∈ xw) (w4 : Cond.initialized y.cls ∈ xw) (w5 : Cond.code y cc' nL' none ∈ xw)
    (hp : y.cls ≠ "java/lang/invoke/MethodHandle" ∧ y.cls ≠ "java/lang/invoke/VarHandle" ∧ (parseMethodDescriptor y.desc).map (fun d => d.parameters.length) = some n) (hn : vs.length = n) (hdl : d' < d) (hnl : nL' ≤ 41)
    (hW : (st.map Value.category).sum ≤ 8) (hd : decode u.2.1 pc = .ok (.invokespecial idx, 3)) (hs0 : st0 = vs.reverse ++ .ref b :: st)
    (hkc : kc + kc' ≤ kc0) (hks : ks + ks' ≤ ks0)
    (hok : xkp Qr' Qx' ls st σ)
    (kr : ∀ v σ', Qr' v σ' → σ.1.1 ≤ σ'.1.1 → Ev l G u d Qr Qx kc ks (pc + 3) ls (v.toList ++ st) σ')
    (kx : ∀ k σ', Qx' k σ' → k < 3 → σ.1.1 ≤ σ'.1.1 → Xv l G u d Qr Qx kc ks pc ls st σ' k) : Ev l G u d Qr Qx kc0 ks0 pc ls st0 σ := by
  refine xv_run (n := n) (y := y) ?_ hkc hks hok kr kx
  intro p e s m args below meth c C9 ad H locs cells slots mc ms lsA h3 h4 h5 h6 h7 h8
  obtain ⟨hx, hb, hr, hml, hts, hown, hlocks, hfl, htab, hnm, hK, hH⟩ := C9
  have hcw : va_CN (xR d mc ms) s args u.1 idx y RX11 cc' nL' none (.code y cc' nL' none :: xw) (xR d' kc' ks') kc' ks' n ∧ y.name = "<init>" ∧ (Cond.instanceMethod y).before args s = true :=
    ⟨va_cnB n hts (xw_in (fun w hw => by
      rcases List.mem_cons.mp hw with rfl | hw
      · exact w5
      · exact hw)) rfl rfl rfl (w1 s hK) (hts _ w4) hp ⟨by show d' + 6 + 1 ≤ d + 6; omega, by show 8 + (nL' + 11) + (60 * d' + 300) ≤ 60 * d + 300; omega⟩, hy1, hts _ w2⟩
  refine ⟨_, vx_runIN (As := vs.map (xcv ad)) (b := ad b) (rest := st.map (xcv ad)) (nL := u.2.2.1) (cc := u.2.1) ⟨hx, hb, hml, hown, hts⟩ (hM ad h3) hcw ⟨xblind, xpre hK hH h6 h5⟩ rfl (by rw [List.length_map]; exact hn) h4.1 ?_ ?_ hd ⟨h7, h8⟩⟩
  · subst hs0
    show List.map (xcv ad) _ = _
    rw [List.map_append, List.map_reverse]
    rfl
  · refine lv_room (?_ : ((st.map (xcv ad)).map fun v => v.category).sum ≤ 8)
    rw [List.map_map]
    have : ((fun v : Value => v.category) ∘ xcv ad) = Value.category := funext fun v => xcv_cat
    rw [this]; exact hW
end XALLOC
