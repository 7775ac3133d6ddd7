/-- what is known of a kind of objects -/
def xCl (ci : Nat) (C : String) (T : u_T) (N : Nat) : Prop := vwCl[ci]? = some (C, T, N) ∧ (∀ w ∈ u_ws C T N, w ∈ xw) ∧ (∃ ty0 : Nat → FieldType, ∀ k, k < N → parseFieldDescriptor (T k).2.2.1 = some (ty0 k)) ∧ (∀ a, a < N → ∀ b, b < N → a ≠ b → (T a).2.1 ≠ (T b).2.1) ∧ (xft ci).length = N ∧ ci ≠ 99
theorem xcl0 : xCl 0 RX0 TX0 12 := ⟨rfl, inlX0, ⟨tyX0, tyX0_ok⟩, nmX0, rfl, by decide⟩
theorem xcl1 : xCl 1 RX1 TX1 18 := ⟨rfl, inlX1, ⟨tyX1, tyX1_ok⟩, nmX1, rfl, by decide⟩
theorem xcl2 : xCl 2 RX2 TX2 11 := ⟨rfl, inlX2, ⟨tyX2, tyX2_ok⟩, nmX2, rfl, by decide⟩
theorem xcl3 : xCl 3 RX3 TX3 1 := ⟨rfl, inlX3, ⟨tyX3, tyX3_ok⟩, nmX3, rfl, by decide⟩
theorem xcl4 : xCl 4 RX4 TX4 13 := ⟨rfl, inlX4, ⟨tyX4, tyX4_ok⟩, nmX4, rfl, by decide⟩
theorem xcl5 : xCl 5 RX5 TX5 13 := ⟨rfl, inlX5, ⟨tyX5, tyX5_ok⟩, nmX5, rfl, by decide⟩
theorem xcl6 : xCl 6 RX6 TX6 3 := ⟨rfl, inlX6, ⟨tyX6, tyX6_ok⟩, nmX6, rfl, by decide⟩
theorem xcl7 : xCl 7 RX7 TX7 7 := ⟨rfl, inlX7, ⟨tyX7, tyX7_ok⟩, nmX7, rfl, by decide⟩
theorem xcl8 : xCl 8 RX8 TX8 1 := ⟨rfl, inlX8, ⟨tyX8, tyX8_ok⟩, nmX8, rfl, by decide⟩
theorem xcl9 : xCl 9 RX9 TX9 4 := ⟨rfl, inlX9, ⟨tyX9, tyX9_ok⟩, nmX9, rfl, by decide⟩
theorem xcl10 : xCl 10 RX10 TX10 13 := ⟨rfl, inlX10, ⟨tyX10, tyX10_ok⟩, nmX10, rfl, by decide⟩
theorem xcl11 : xCl 11 RX11 TX11 6 := ⟨rfl, inlX11, ⟨tyX11, tyX11_ok⟩, nmX11, rfl, by decide⟩
def xokv (n : Nat) (v : Value) : Prop := match v with
  | .ref c => c < n ∨ c = xSCR
  | _ => True
theorem xP.set {G : xG} {σ σ' : xS} {ad : Nat → Nat} {H H1 : Heap} {c : Nat} {e : va_E} (h : xP G σ ad H) (hc : c < σ.1.1) (hn : σ'.1.1 = σ.1.1) (hty : σ'.1.2.1 = σ.1.2.1) (hrf : ∀ j c', σ'.1.2.2 c j = some c' → c' < σ.1.1) (ho : ∀ k, k ≠ c → σ'.1.2.2 k = σ.1.2.2 k ∧ σ'.2 k = σ.2 k)
    (he : xcell G.2.1 σ' ad c = e) (hP : va_P G.1 vwCl ((xws G.2.1 σ ad).set c (ad c, e)) H1) (hD : va_D (xA G) ((xws G.2.1 σ ad).set c (ad c, e))) : xP G σ' ad H1 := by
  have hs : (xws G.2.1 σ ad).set c (ad c, e) = xws G.2.1 σ' ad := xws_set hn hc he (fun k hk => by unfold xcell; rw [hty, (ho k hk).1, (ho k hk).2])
  rw [hs] at hP hD
  refine ⟨hP, hD, by rw [hn]; exact h.2.2.1, fun k hk => by rw [hty]; exact h.2.2.2.1 k (by rw [← hn]; exact hk), fun k j c' hk hj => ?_⟩
  rw [hn] at hk ⊢
  by_cases q : k = c
  · subst q; exact hrf j c' hj
  · rw [(ho k q).1] at hj; exact h.2.2.2.2 k j c' hk hj
section XMEM
variable {l : Launch} {G : xG} {u : xU} {d : Nat} {Qr : Option Value → xS → Prop} {Qx : Nat → xS → Prop} {kc ks pc : Nat} {ls : List (Option Value)} {st : List Value} {σ : xS}
theorem xv_get {ci c k t idx N : Nat} {ref C : String} {T : u_T} {w : Value} (hC : xCl ci C T N) (hc : σ.1.2.1 c = .inl ci) (ht : (xft ci)[k]? = some t) (hw : Cond.fieldLink u.1 idx ref (T k).2.1 (T k).2.2.1 ∈ xw) (href : ref = (T k).1)
    (hd : decode u.2.1 pc = .ok (.getfield idx, 3)) (hwv : ∀ ad, xdec ad t (σ.2 c k) (σ.1.2.2 c k) = xcv ad w) (K : Ev l G u d Qr Qx kc ks (pc + 3) ls (w :: st) σ) : Ev l G u d Qr Qx kc ks pc ls (.ref c :: st) σ := by
  intro p e s m args below meth c9 C9 n0 ad0 ad H locs cells slots mc ms lsA h1 h2 h3 h4 h5 h6 h7 h8
  have C' := C9
  obtain ⟨hx, hb, hr, hml, hts, hown, hlocks, hfl, htab, hnm, hK, hH⟩ := C'
  have hcn : c < σ.1.1 := h5.lt (by rw [hc]; intro q; exact hC.2.2.2.2.2 (Sum.inl.inj q))
  have hk : k < N := by rw [← hC.2.2.2.2.1]; exact (List.getElem?_eq_some_iff.mp ht).1
  refine va_get hx hb hts hC.2.1 hown hK.1 h5.1 c (by rw [xws_get hcn, xcell_o hc]) hC.1 k hk (hts _ hw) (fun x h => by rw [href]; exact h) (xflds_get ht) hd ?_
  rw [hwv ad]
  exact K p e s m args below meth c9 C9 n0 ad0 ad H locs cells slots mc ms lsA h1 h2 h3 h4 h5 h6 h7 h8
theorem xv_put {ci c k t idx N : Nat} {ref C : String} {T : u_T} {w : Value} {σ' : xS} {ty : FieldType} (hC : xCl ci C T N) (hc : σ.1.2.1 c = .inl ci) (ht : (xft ci)[k]? = some t) (hw : Cond.fieldLink u.1 idx ref (T k).2.1 (T k).2.2.1 ∈ xw) (href : ref = (T k).1)
    (hd : decode u.2.1 pc = .ok (.putfield idx, 3)) (hfin : (T k).2.2.2 = false) (hpd : parseFieldDescriptor (T k).2.2.1 = some ty) (hn : ∀ ad, narrow ty (xcv ad w) = xcv ad w) (hf : ∀ ad, fits ty (xcv ad w) = true)
    (hs1 : σ'.1.1 = σ.1.1) (hs2 : σ'.1.2.1 = σ.1.2.1) (hs3 : ∀ ad, xdec ad t (σ'.2 c k) (σ'.1.2.2 c k) = xcv ad w) (hs4 : ∀ a b, ¬ (a = c ∧ b = k) → σ'.2 a b = σ.2 a b ∧ σ'.1.2.2 a b = σ.1.2.2 a b) (hs5 : ∀ c', σ'.1.2.2 c k = some c' → c' < σ.1.1 ∨ σ.1.2.2 c k = some c')
    (K : Ev l G u d Qr Qx kc ks (pc + 3) ls st σ') : Ev l G u d Qr Qx kc ks pc ls (w :: .ref c :: st) σ := by
  intro p e s m args below meth c9 C9 n0 ad0 ad H locs cells slots mc ms lsA h1 h2 h3 h4 h5 h6 h7 h8
  have C' := C9
  obtain ⟨hx, hb, hr, hml, hts, hown, hlocks, hfl, htab, hnm, hK, hH⟩ := C'
  have hcn : c < σ.1.1 := h5.lt (by rw [hc]; intro q; exact hC.2.2.2.2.2 (Sum.inl.inj q))
  have hk : k < N := by rw [← hC.2.2.2.2.1]; exact (List.getElem?_eq_some_iff.mp ht).1
  obtain ⟨ty0, hty0⟩ := hC.2.2.1
  refine va_put hx hb hts hC.2.1 ty0 hty0 hC.2.2.2.1 hown hK.1 h5.1 h5.2.1 h6 c (by rw [xws_get hcn, xcell_o hc]) hC.1 k hk (hts _ hw) (fun x h => by rw [href]; exact h) hfin hpd (hn ad) (hf ad) (by rw [xflds_len, hC.2.2.2.2.1]; exact hk) hd (fun H1 locs1 hP1 hD1 hS1 => ?_)
  refine K p e s m args below meth c9 C9 n0 ad0 ad H1 locs1 cells slots mc ms lsA (by rw [hs1]; exact h1) (by rw [hs1]; exact h2) h3 h4 (h5.set hcn hs1 hs2 (fun j c' hj => ?_) (fun z hz => ⟨funext fun b => (hs4 z b (fun q => hz q.1)).2, funext fun b => (hs4 z b (fun q => hz q.1)).1⟩) ?_ hP1 hD1) hS1 h7 h8
  · by_cases q : j = k
    · subst q; exact (hs5 c' hj).elim id (fun z => h5.2.2.2.2 c j c' hcn z)
    · rw [(hs4 c j (fun z => q z.2)).2] at hj
      exact h5.2.2.2.2 c j c' hcn hj
  · rw [xcell_o (by rw [hs2]; exact hc)]
    rw [xflds_set ht (hs3 ad) (fun j hj => ⟨(hs4 c j (fun z => hj z.2)).1, (hs4 c j (fun z => hj z.2)).2⟩)]
theorem xv_putF {ci c k t idx N : Nat} {ref C : String} {T : u_T} {w : Value} {σ' : xS} {ty : FieldType} (hC : xCl ci C T N) (hc : σ.1.2.1 c = .inl ci) (ht : (xft ci)[k]? = some t) (hw : Cond.fieldLink u.1 idx ref (T k).2.1 (T k).2.2.1 ∈ xw) (href : ref = (T k).1)
    (hd : decode u.2.1 pc = .ok (.putfield idx, 3)) (hfin : (T k).2.2.2 = true) (hin : u.2.2.2.2.2 = "<init>") (hdecl : (T k).1 = u.1) (hpd : parseFieldDescriptor (T k).2.2.1 = some ty) (hn : ∀ ad, narrow ty (xcv ad w) = xcv ad w) (hf : ∀ ad, fits ty (xcv ad w) = true)
    (hs1 : σ'.1.1 = σ.1.1) (hs2 : σ'.1.2.1 = σ.1.2.1) (hs3 : ∀ ad, xdec ad t (σ'.2 c k) (σ'.1.2.2 c k) = xcv ad w) (hs4 : ∀ a b, ¬ (a = c ∧ b = k) → σ'.2 a b = σ.2 a b ∧ σ'.1.2.2 a b = σ.1.2.2 a b) (hs5 : ∀ c', σ'.1.2.2 c k = some c' → c' < σ.1.1 ∨ σ.1.2.2 c k = some c')
    (K : Ev l G u d Qr Qx kc ks (pc + 3) ls st σ') : Ev l G u d Qr Qx kc ks pc ls (w :: .ref c :: st) σ := by
  intro p e s m args below meth c9 C9 n0 ad0 ad H locs cells slots mc ms lsA h1 h2 h3 h4 h5 h6 h7 h8
  have C' := C9
  obtain ⟨hx, hb, hr, hml, hts, hown, hlocks, hfl, htab, hnm, hK, hH⟩ := C'
  have hcn : c < σ.1.1 := h5.lt (by rw [hc]; intro q; exact hC.2.2.2.2.2 (Sum.inl.inj q))
  have hk : k < N := by rw [← hC.2.2.2.2.1]; exact (List.getElem?_eq_some_iff.mp ht).1
  obtain ⟨ty0, hty0⟩ := hC.2.2.1
  refine va_putF hx hb hts hC.2.1 ty0 hty0 hC.2.2.2.1 hown hK.1 h5.1 h5.2.1 h6 c (by rw [xws_get hcn, xcell_o hc]) hC.1 k hk (hts _ hw) (fun x h => by rw [href]; exact h) hfin (hnm.trans hin) hdecl hpd (hn ad) (hf ad) (by rw [xflds_len, hC.2.2.2.2.1]; exact hk) hd (fun H1 locs1 hP1 hD1 hS1 => ?_)
  refine K p e s m args below meth c9 C9 n0 ad0 ad H1 locs1 cells slots mc ms lsA (by rw [hs1]; exact h1) (by rw [hs1]; exact h2) h3 h4 (h5.set hcn hs1 hs2 (fun j c' hj => ?_) (fun z hz => ⟨funext fun b => (hs4 z b (fun q => hz q.1)).2, funext fun b => (hs4 z b (fun q => hz q.1)).1⟩) ?_ hP1 hD1) hS1 h7 h8
  · by_cases q : j = k
    · subst q; exact (hs5 c' hj).elim id (fun z => h5.2.2.2.2 c j c' hcn z)
    · rw [(hs4 c j (fun z => q z.2)).2] at hj
      exact h5.2.2.2.2 c j c' hcn hj
  · rw [xcell_o (by rw [hs2]; exact hc)]
    rw [xflds_set ht (hs3 ad) (fun j hj => ⟨(hs4 c j (fun z => hj z.2)).1, (hs4 c j (fun z => hj z.2)).2⟩)]
theorem xv_getI {ci c k idx N : Nat} {ref C : String} {T : u_T} (hC : xCl ci C T N) (hc : σ.1.2.1 c = .inl ci) (ht : (xft ci)[k]? = some 0) (hw : Cond.fieldLink u.1 idx ref (T k).2.1 (T k).2.2.1 ∈ xw) (href : ref = (T k).1) (hd : decode u.2.1 pc = .ok (.getfield idx, 3)) (K : Ev l G u d Qr Qx kc ks (pc + 3) ls (iv (σ.2 c k) :: st) σ) : Ev l G u d Qr Qx kc ks pc ls (.ref c :: st) σ := xv_get hC hc ht hw href hd (fun _ => rfl) K
theorem xv_getZ {ci c k idx N : Nat} {ref C : String} {T : u_T} (hC : xCl ci C T N) (hc : σ.1.2.1 c = .inl ci) (ht : (xft ci)[k]? = some 1) (hw : Cond.fieldLink u.1 idx ref (T k).2.1 (T k).2.2.1 ∈ xw) (href : ref = (T k).1) (hd : decode u.2.1 pc = .ok (.getfield idx, 3)) (K : Ev l G u d Qr Qx kc ks (pc + 3) ls (iv (xz (σ.2 c k)) :: st) σ) : Ev l G u d Qr Qx kc ks pc ls (.ref c :: st) σ := xv_get hC hc ht hw href hd (fun _ => rfl) K
theorem xv_getJ {ci c k idx N : Nat} {ref C : String} {T : u_T} (hC : xCl ci C T N) (hc : σ.1.2.1 c = .inl ci) (ht : (xft ci)[k]? = some 2) (hw : Cond.fieldLink u.1 idx ref (T k).2.1 (T k).2.2.1 ∈ xw) (href : ref = (T k).1) (hd : decode u.2.1 pc = .ok (.getfield idx, 3)) (K : Ev l G u d Qr Qx kc ks (pc + 3) ls (jv (σ.2 c k) :: st) σ) : Ev l G u d Qr Qx kc ks pc ls (.ref c :: st) σ := xv_get hC hc ht hw href hd (fun _ => rfl) K
theorem xv_getR {ci c k c' idx N : Nat} {ref C : String} {T : u_T} (hC : xCl ci C T N) (hc : σ.1.2.1 c = .inl ci) (ht : (xft ci)[k]? = some 3) (hw : Cond.fieldLink u.1 idx ref (T k).2.1 (T k).2.2.1 ∈ xw) (href : ref = (T k).1) (hr0 : σ.1.2.2 c k = some c') (hd : decode u.2.1 pc = .ok (.getfield idx, 3)) (K : Ev l G u d Qr Qx kc ks (pc + 3) ls (.ref c' :: st) σ) : Ev l G u d Qr Qx kc ks pc ls (.ref c :: st) σ := xv_get hC hc ht hw href hd (fun ad => by rw [hr0]; rfl) K
theorem xz_id {x : Int} (h : x = 0 ∨ x = 1) : xz x = x := by rcases h with rfl | rfl <;> rfl
theorem xv_putI {ci c k idx N : Nat} {x : Int} {ref C : String} {T : u_T} (hC : xCl ci C T N) (hc : σ.1.2.1 c = .inl ci) (ht : (xft ci)[k]? = some 0) (hw : Cond.fieldLink u.1 idx ref (T k).2.1 (T k).2.2.1 ∈ xw) (href : ref = (T k).1) (hpd : parseFieldDescriptor (T k).2.2.1 = some .int) (hd : decode u.2.1 pc = .ok (.putfield idx, 3)) (hfin : (T k).2.2.2 = false) (K : Ev l G u d Qr Qx kc ks (pc + 3) ls st (σ.1, xup σ.2 c k x)) : Ev l G u d Qr Qx kc ks pc ls (iv x :: .ref c :: st) σ :=
  xv_put (σ' := (σ.1, xup σ.2 c k x)) hC hc ht hw href hd hfin hpd (fun _ => rfl) (fun _ => rfl) rfl rfl (fun ad => by show Value.int (Int32.ofInt (xup σ.2 c k x c k)) = _; rw [xup_same]; rfl) (fun a b q => ⟨xup_ne q, rfl⟩) (fun c' hj => Or.inr hj) K
theorem xv_putJ {ci c k idx N : Nat} {x : Int} {ref C : String} {T : u_T} (hC : xCl ci C T N) (hc : σ.1.2.1 c = .inl ci) (ht : (xft ci)[k]? = some 2) (hw : Cond.fieldLink u.1 idx ref (T k).2.1 (T k).2.2.1 ∈ xw) (href : ref = (T k).1) (hpd : parseFieldDescriptor (T k).2.2.1 = some .long) (hd : decode u.2.1 pc = .ok (.putfield idx, 3)) (hfin : (T k).2.2.2 = false) (K : Ev l G u d Qr Qx kc ks (pc + 3) ls st (σ.1, xup σ.2 c k x)) : Ev l G u d Qr Qx kc ks pc ls (jv x :: .ref c :: st) σ :=
  xv_put (σ' := (σ.1, xup σ.2 c k x)) hC hc ht hw href hd hfin hpd (fun _ => rfl) (fun _ => rfl) rfl rfl (fun ad => by show Value.long (Int64.ofInt (xup σ.2 c k x c k)) = _; rw [xup_same]; rfl) (fun a b q => ⟨xup_ne q, rfl⟩) (fun c' hj => Or.inr hj) K
theorem xv_putZ {ci c k idx N : Nat} {x : Int} {ref C : String} {T : u_T} (hC : xCl ci C T N) (hc : σ.1.2.1 c = .inl ci) (ht : (xft ci)[k]? = some 1) (hw : Cond.fieldLink u.1 idx ref (T k).2.1 (T k).2.2.1 ∈ xw) (href : ref = (T k).1) (hpd : parseFieldDescriptor (T k).2.2.1 = some .boolean) (hd : decode u.2.1 pc = .ok (.putfield idx, 3)) (hfin : (T k).2.2.2 = false) (hx01 : x = 0 ∨ x = 1) (K : Ev l G u d Qr Qx kc ks (pc + 3) ls st (σ.1, xup σ.2 c k x)) : Ev l G u d Qr Qx kc ks pc ls (iv x :: .ref c :: st) σ :=
  xv_put (σ' := (σ.1, xup σ.2 c k x)) hC hc ht hw href hd hfin hpd (fun _ => by rcases hx01 with rfl | rfl <;> rfl) (fun _ => by rcases hx01 with rfl | rfl <;> rfl) rfl rfl (fun ad => by show Value.int (Int32.ofInt (xz (xup σ.2 c k x c k))) = _; rw [xup_same, xz_id hx01]; rfl) (fun a b q => ⟨xup_ne q, rfl⟩) (fun c' hj => Or.inr hj) K
theorem xv_putR {ci c k b idx N : Nat} {ref C : String} {T : u_T} {ty : FieldType} (hC : xCl ci C T N) (hc : σ.1.2.1 c = .inl ci) (ht : (xft ci)[k]? = some 3) (hw : Cond.fieldLink u.1 idx ref (T k).2.1 (T k).2.2.1 ∈ xw) (href : ref = (T k).1) (hpd : parseFieldDescriptor (T k).2.2.1 = some ty) (hty : (∃ n, ty = .object n) ∨ ∃ n, ty = .array n) (hd : decode u.2.1 pc = .ok (.putfield idx, 3)) (hfin : (T k).2.2.2 = true) (hin : u.2.2.2.2.2 = "<init>") (hdecl : (T k).1 = u.1) (hb : b < σ.1.1) (K : Ev l G u d Qr Qx kc ks (pc + 3) ls st ((σ.1.1, σ.1.2.1, xup σ.1.2.2 c k (some b)), σ.2)) : Ev l G u d Qr Qx kc ks pc ls (.ref b :: .ref c :: st) σ :=
  xv_putF (σ' := ((σ.1.1, σ.1.2.1, xup σ.1.2.2 c k (some b)), σ.2)) hC hc ht hw href hd hfin hin hdecl hpd (fun _ => by rcases hty with ⟨n, rfl⟩ | ⟨n, rfl⟩ <;> rfl) (fun _ => by rcases hty with ⟨n, rfl⟩ | ⟨n, rfl⟩ <;> rfl) rfl rfl (fun ad => by show va_rf ((xup σ.1.2.2 c k (some b) c k).map ad) = _; rw [xup_same]; rfl) (fun a b q => ⟨rfl, xup_ne q⟩) (fun c' hj => Or.inl (Option.some.inj ((xup_same (m := σ.1.2.2) (c := c) (k := k) (v := some b)).symm.trans hj) ▸ hb)) K
theorem xv_iald {c n k : Nat} {z : Int} (hc : σ.1.2.1 c = .inr (0, n)) (hz : z = (k : Int)) (hk : k < n) (hn : n ≤ 2147483648) (hd : decode u.2.1 pc = .ok (.iaload, 1)) (K : Ev l G u d Qr Qx kc ks (pc + 1) ls (iv (σ.2 c k) :: st) σ) : Ev l G u d Qr Qx kc ks pc ls (iv z :: .ref c :: st) σ := by
  subst hz
  intro p e s m args below meth c9 C9 n0 ad0 ad H locs cells slots mc ms lsA h1 h2 h3 h4 h5 h6 h7 h8
  have C' := C9
  obtain ⟨hx, hb, hr, hml, hts, hown, hlocks, hfl, htab, hnm, hK, hH⟩ := C'
  have hcn : c < σ.1.1 := h5.lt (by rw [hc]; intro q; cases q)
  refine va_iald hx hb hK.1 h5.1 c 0 (by rw [xws_get hcn, xcell_a hc]; rfl) (xtys_get (by decide)) (xin hk hn) hd ?_
  rw [xclamp (Nat.lt_of_lt_of_le hk hn)]
  exact K p e s m args below meth c9 C9 n0 ad0 ad H locs cells slots mc ms lsA h1 h2 h3 h4 h5 h6 h7 h8
theorem xv_lald {c n k : Nat} {z : Int} (hc : σ.1.2.1 c = .inr (1, n)) (hz : z = (k : Int)) (hk : k < n) (hn : n ≤ 2147483648) (hd : decode u.2.1 pc = .ok (.laload, 1)) (K : Ev l G u d Qr Qx kc ks (pc + 1) ls (jv (σ.2 c k) :: st) σ) : Ev l G u d Qr Qx kc ks pc ls (iv z :: .ref c :: st) σ := by
  subst hz
  intro p e s m args below meth c9 C9 n0 ad0 ad H locs cells slots mc ms lsA h1 h2 h3 h4 h5 h6 h7 h8
  have C' := C9
  obtain ⟨hx, hb, hr, hml, hts, hown, hlocks, hfl, htab, hnm, hK, hH⟩ := C'
  have hcn : c < σ.1.1 := h5.lt (by rw [hc]; intro q; cases q)
  refine va_lald hx hb hK.1 h5.1 c 1 (by rw [xws_get hcn, xcell_a hc]; rfl) (xtys_get (by decide)) (xin hk hn) hd ?_
  rw [xclamp (Nat.lt_of_lt_of_le hk hn)]
  exact K p e s m args below meth c9 C9 n0 ad0 ad H locs cells slots mc ms lsA h1 h2 h3 h4 h5 h6 h7 h8
theorem xv_aald {c n a k c' : Nat} {z : Int} {C : String} (hc : σ.1.2.1 c = .inr (a, n)) (ha : 3 ≤ a) (ha2 : a < 10) (hC : xtyp a = .object C) (hz : z = (k : Int)) (hk : k < n) (hn : n ≤ 2147483648) (hr0 : σ.1.2.2 c k = some c') (hd : decode u.2.1 pc = .ok (.aaload, 1)) (K : Ev l G u d Qr Qx kc ks (pc + 1) ls (.ref c' :: st) σ) : Ev l G u d Qr Qx kc ks pc ls (iv z :: .ref c :: st) σ := by
  subst hz
  intro p e s m args below meth c9 C9 n0 ad0 ad H locs cells slots mc ms lsA h1 h2 h3 h4 h5 h6 h7 h8
  have C' := C9
  obtain ⟨hx, hb, hr, hml, hts, hown, hlocks, hfl, htab, hnm, hK, hH⟩ := C'
  have hcn : c < σ.1.1 := h5.lt (by rw [hc]; intro q; cases q)
  have hxa : ∀ (f : Nat → Int) (g : Nat → Option Nat), xarr ad a f g = .inr (.inr (.inr (.inr (fun j => (g j).map ad)))) := by
    intro f g
    match a, ha with
    | a + 3, _ => rfl
  refine va_aldq (C := C) hx hb hK.1 h5.1 c a (by rw [xws_get hcn, xcell_a hc, hxa]) (by rw [xtys_get ha2, hC]) (xin hk hn) hd ?_
  rw [xclamp (Nat.lt_of_lt_of_le hk hn), hr0]
  exact K p e s m args below meth c9 C9 n0 ad0 ad H locs cells slots mc ms lsA h1 h2 h3 h4 h5 h6 h7 h8
theorem xv_alen {c n a : Nat} (hc : σ.1.2.1 c = .inr (a, n)) (ha2 : a < 10) (hd : decode u.2.1 pc = .ok (.arraylength, 1)) (K : Ev l G u d Qr Qx kc ks (pc + 1) ls (iv (n : Int) :: st) σ) : Ev l G u d Qr Qx kc ks pc ls (.ref c :: st) σ := by
  intro p e s m args below meth c9 C9 n0 ad0 ad H locs cells slots mc ms lsA h1 h2 h3 h4 h5 h6 h7 h8
  have C' := C9
  obtain ⟨hx, hb, hr, hml, hts, hown, hlocks, hfl, htab, hnm, hK, hH⟩ := C'
  have hcn : c < σ.1.1 := h5.lt (by rw [hc]; intro q; cases q)
  exact va_alen hx hb hK.1 h5.1 c a (x := (n, xarr ad a (σ.2 c) (σ.1.2.2 c))) (by rw [xws_get hcn, xcell_a hc]) (xtys_get ha2) Int32.ofInt_eq_ofNat.symm hd (K p e s m args below meth c9 C9 n0 ad0 ad H locs cells slots mc ms lsA h1 h2 h3 h4 h5 h6 h7 h8)
theorem xv_iast {c n k : Nat} {z : Int} {x : Int} (hc : σ.1.2.1 c = .inr (0, n)) (hz : z = (k : Int)) (hk : k < n) (hn : n ≤ 2147483648) (hd : decode u.2.1 pc = .ok (.iastore, 1)) (K : Ev l G u d Qr Qx kc ks (pc + 1) ls st (σ.1, xup σ.2 c k x)) : Ev l G u d Qr Qx kc ks pc ls (iv x :: iv z :: .ref c :: st) σ := by
  subst hz
  intro p e s m args below meth c9 C9 n0 ad0 ad H locs cells slots mc ms lsA h1 h2 h3 h4 h5 h6 h7 h8
  have C' := C9
  obtain ⟨hx, hb, hr, hml, hts, hown, hlocks, hfl, htab, hnm, hK, hH⟩ := C'
  have hcn : c < σ.1.1 := h5.lt (by rw [hc]; intro q; cases q)
  refine va_iast hx hb hK.1 h5.1 h5.2.1 h6 c 0 (by rw [xws_get hcn, xcell_a hc]; rfl) (xtys_get (by decide)) (xin hk hn) hd (fun H1 locs1 hP1 hD1 hS1 => ?_)
  refine K p e s m args below meth c9 C9 n0 ad0 ad H1 locs1 cells slots mc ms lsA h1 h2 h3 h4 (h5.set (σ' := (σ.1, xup σ.2 c k x)) hcn rfl rfl (fun j c' hj => h5.2.2.2.2 c j c' hcn hj) (fun z hz => ⟨rfl, xup_row hz⟩) ?_ hP1 hD1) hS1 h7 h8
  rw [xcell_a (σ := (σ.1, xup σ.2 c k x)) hc]
  have hf : (fun j => Int32.ofInt (xup σ.2 c k x c j)) = upd (fun j => Int32.ofInt (σ.2 c j)) (Int32.ofInt (k : Int)).toNatClampNeg (Int32.ofInt x) := by
    rw [xclamp (Nat.lt_of_lt_of_le hk hn)]
    funext j
    by_cases q : j = k
    · subst q; simp [xup, upd]
    · simp [xup, upd, q]
  show Sum.inl (G.2.1 0, n, Sum.inl (fun j => Int32.ofInt (xup σ.2 c k x c j))) = _
  rw [hf]
theorem xv_last {c n k : Nat} {z : Int} {x : Int} (hc : σ.1.2.1 c = .inr (1, n)) (hz : z = (k : Int)) (hk : k < n) (hn : n ≤ 2147483648) (hd : decode u.2.1 pc = .ok (.lastore, 1)) (K : Ev l G u d Qr Qx kc ks (pc + 1) ls st (σ.1, xup σ.2 c k x)) : Ev l G u d Qr Qx kc ks pc ls (jv x :: iv z :: .ref c :: st) σ := by
  subst hz
  intro p e s m args below meth c9 C9 n0 ad0 ad H locs cells slots mc ms lsA h1 h2 h3 h4 h5 h6 h7 h8
  have C' := C9
  obtain ⟨hx, hb, hr, hml, hts, hown, hlocks, hfl, htab, hnm, hK, hH⟩ := C'
  have hcn : c < σ.1.1 := h5.lt (by rw [hc]; intro q; cases q)
  refine va_last hx hb hK.1 h5.1 h5.2.1 h6 c 1 (by rw [xws_get hcn, xcell_a hc]; rfl) (xtys_get (by decide)) (xin hk hn) hd (fun H1 locs1 hP1 hD1 hS1 => ?_)
  refine K p e s m args below meth c9 C9 n0 ad0 ad H1 locs1 cells slots mc ms lsA h1 h2 h3 h4 (h5.set (σ' := (σ.1, xup σ.2 c k x)) hcn rfl rfl (fun j c' hj => h5.2.2.2.2 c j c' hcn hj) (fun z hz => ⟨rfl, xup_row hz⟩) ?_ hP1 hD1) hS1 h7 h8
  rw [xcell_a (σ := (σ.1, xup σ.2 c k x)) hc]
  have hf : (fun j => Int64.ofInt (xup σ.2 c k x c j)) = vp_updL (fun j => Int64.ofInt (σ.2 c j)) (Int32.ofInt (k : Int)).toNatClampNeg (Int64.ofInt x) := by
    rw [xclamp (Nat.lt_of_lt_of_le hk hn)]
    funext j
    by_cases q : j = k
    · subst q; simp [xup, vp_updL]
    · simp [xup, vp_updL, q]
  show Sum.inl (G.2.1 1, n, Sum.inr (Sum.inl (fun j => Int64.ofInt (xup σ.2 c k x c j)))) = _
  rw [hf]
end XMEM
