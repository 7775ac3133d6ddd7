def xnames : List String := ["java/lang/RuntimeException", "java/lang/Exception"]
theorem xat0 {args : Array Value} {s : State} (hts : ∀ w ∈ xw, w.before args s = true) (hc : va_Nw (.castable (xen 0) (xen 0)) s) (hdd : va_Nw (.declares (Bundle.initS xnR)) s ∧ va_Nw (.declares (Bundle.initS xnE)) s ∧ va_Nw (.declares (Bundle.initS Bundle.tN)) s) : ∀ w ∈ vx_atS RX11 413 "java/lang/IndexOutOfBoundsException" ["java/lang/RuntimeException", "java/lang/Exception"], w.before args s = true :=
  vx_hat (B := [.castable "java/lang/IndexOutOfBoundsException" "java/lang/IndexOutOfBoundsException", .declares (Bundle.initS xnR), .declares (Bundle.initS xnE), .declares (Bundle.initS Bundle.tN)]) (fun w hw => hts w (List.mem_append_left _ (List.mem_append_left _ (List.mem_append_right _ hw)))) (by decide +kernel) (fun w hw => by
    rcases List.mem_cons.mp hw with rfl | hw
    · exact va_Nw.use rfl hc
    · rcases List.mem_cons.mp hw with rfl | hw
      · exact va_Nw.use rfl hdd.1
      · rcases List.mem_cons.mp hw with rfl | hw
        · exact va_Nw.use rfl hdd.2.1
        · rw [List.mem_singleton] at hw; subst hw; exact va_Nw.use rfl hdd.2.2)
theorem xat1 {args : Array Value} {s : State} (hts : ∀ w ∈ xw, w.before args s = true) (hc : va_Nw (.castable (xen 1) (xen 1)) s) (hdd : va_Nw (.declares (Bundle.initS xnR)) s ∧ va_Nw (.declares (Bundle.initS xnE)) s ∧ va_Nw (.declares (Bundle.initS Bundle.tN)) s) : ∀ w ∈ vx_atS RX11 420 "java/lang/IllegalArgumentException" ["java/lang/RuntimeException", "java/lang/Exception"], w.before args s = true :=
  vx_hat (B := [.castable "java/lang/IllegalArgumentException" "java/lang/IllegalArgumentException", .declares (Bundle.initS xnR), .declares (Bundle.initS xnE), .declares (Bundle.initS Bundle.tN)]) (fun w hw => hts w (List.mem_append_left _ (List.mem_append_right _ hw))) (by decide +kernel) (fun w hw => by
    rcases List.mem_cons.mp hw with rfl | hw
    · exact va_Nw.use rfl hc
    · rcases List.mem_cons.mp hw with rfl | hw
      · exact va_Nw.use rfl hdd.1
      · rcases List.mem_cons.mp hw with rfl | hw
        · exact va_Nw.use rfl hdd.2.1
        · rw [List.mem_singleton] at hw; subst hw; exact va_Nw.use rfl hdd.2.2)
theorem xat2 {args : Array Value} {s : State} (hts : ∀ w ∈ xw, w.before args s = true) (hc : va_Nw (.castable (xen 2) (xen 2)) s) (hdd : va_Nw (.declares (Bundle.initS xnR)) s ∧ va_Nw (.declares (Bundle.initS xnE)) s ∧ va_Nw (.declares (Bundle.initS Bundle.tN)) s) : ∀ w ∈ vx_atS RX11 425 "java/lang/IllegalStateException" ["java/lang/RuntimeException", "java/lang/Exception"], w.before args s = true :=
  vx_hat (B := [.castable "java/lang/IllegalStateException" "java/lang/IllegalStateException", .declares (Bundle.initS xnR), .declares (Bundle.initS xnE), .declares (Bundle.initS Bundle.tN)]) (fun w hw => hts w (List.mem_append_right _ hw)) (by decide +kernel) (fun w hw => by
    rcases List.mem_cons.mp hw with rfl | hw
    · exact va_Nw.use rfl hc
    · rcases List.mem_cons.mp hw with rfl | hw
      · exact va_Nw.use rfl hdd.1
      · rcases List.mem_cons.mp hw with rfl | hw
        · exact va_Nw.use rfl hdd.2.1
        · rw [List.mem_singleton] at hw; subst hw; exact va_Nw.use rfl hdd.2.2)
section XTHROW
variable {l : Launch} {G : xG} {u : xU} {d : Nat} {Qr : Option Value → xS → Prop} {Qx : Nat → xS → Prop} {kc ks kc0 ks0 pc : Nat} {ls : List (Option Value)} {st : List Value} {σ : xS}

theorem xv_throw0 (hu : u.1 = RX11) (htab0 : u.2.2.2.2.1 = []) (w1 : Cond.classLink RX11 409 "java/lang/IndexOutOfBoundsException" ∈ xw) (w2 : Cond.initialized "java/lang/IndexOutOfBoundsException" ∈ xw)
    (d0 : decode u.2.1 pc = .ok (.new 409, 3)) (d3 : decode u.2.1 (pc + 3) = .ok (.dup, 1)) (d4 : decode u.2.1 (pc + 4) = .ok (.ldc_w 411, 3)) (d6 : decode u.2.1 (pc + 7) = .ok (.invokespecial 413, 3)) (d9 : decode u.2.1 (pc + 10) = .ok (.athrow, 1))
    (hW : (st.map Value.category).sum ≤ 8) (hkc : 1 ≤ kc) (hks : 6 ≤ ks) (h : Qx 0 σ) : Ev l G u d Qr Qx kc ks pc ls st σ := by
  intro p e s m args below meth c9 C9 n0 ad0 ad H locs cells slots mc ms lsA h1 h2 h3 h4 h5 h6 h7 h8
  obtain ⟨hx, hb, hr, hml, hts, hown, hlocks, hfl, htab, hnm, hK, hH⟩ := C9
  rw [hu] at hown
  refine vx_throwSW (names := ["java/lang/RuntimeException", "java/lang/Exception"]) (A := xA G) hx hb hfl hown (by decide +kernel) (by decide +kernel) (hts _ w1) (hts _ w2) hK.2.1.1 (xat0 hts hK.2.2.1.1 hK.2.2.2.2.2.1) (by decide +kernel) hH.1.1 hH.1.2 h6 (h4.1.trans hml.symm) d0 d3 d4 d6 d9 (by rw [htab, htab0]; intro x hx; cases hx) (by show 2 + 3 < d + 6; omega) ?_ (by show cells + 1 ≤ mc; omega) (by show slots + 6 ≤ ms; omega) hlocks (fun t hvm hz hq => ?_) (xS_free h6) (by omega) (by omega)
  · show ((st.map (xcv ad)).map fun v => v.category).sum + (13 * (2 + 1) + 43) ≤ 60 * d + 300
    rw [List.map_map]
    have : ((fun v : Value => v.category) ∘ xcv ad) = Value.category := funext fun v => xcv_cat
    rw [this]; omega
  · exact ⟨⟨0, σ, ad, rfl, by decide, h, h1, h2, h5.1.kept (fun k q hk => hq q.1 ((h5.1 k q hk).lt)), h5.2⟩, Nat.le_trans h6.1 hz, fun q g1 g2 => (hq q (Nat.lt_of_lt_of_le g1 h6.1)).trans (h6.2.1 q g1 g2)⟩

theorem xv_throw1 (hu : u.1 = RX11) (htab0 : u.2.2.2.2.1 = []) (w1 : Cond.classLink RX11 416 "java/lang/IllegalArgumentException" ∈ xw) (w2 : Cond.initialized "java/lang/IllegalArgumentException" ∈ xw)
    (d0 : decode u.2.1 pc = .ok (.new 416, 3)) (d3 : decode u.2.1 (pc + 3) = .ok (.dup, 1)) (d4 : decode u.2.1 (pc + 4) = .ok (.ldc_w 418, 3)) (d6 : decode u.2.1 (pc + 7) = .ok (.invokespecial 420, 3)) (d9 : decode u.2.1 (pc + 10) = .ok (.athrow, 1))
    (hW : (st.map Value.category).sum ≤ 8) (hkc : 1 ≤ kc) (hks : 6 ≤ ks) (h : Qx 1 σ) : Ev l G u d Qr Qx kc ks pc ls st σ := by
  intro p e s m args below meth c9 C9 n0 ad0 ad H locs cells slots mc ms lsA h1 h2 h3 h4 h5 h6 h7 h8
  obtain ⟨hx, hb, hr, hml, hts, hown, hlocks, hfl, htab, hnm, hK, hH⟩ := C9
  rw [hu] at hown
  refine vx_throwSW (names := ["java/lang/RuntimeException", "java/lang/Exception"]) (A := xA G) hx hb hfl hown (by decide +kernel) (by decide +kernel) (hts _ w1) (hts _ w2) hK.2.1.2.1 (xat1 hts hK.2.2.1.2.1 hK.2.2.2.2.2.1) (by decide +kernel) hH.1.1 hH.1.2 h6 (h4.1.trans hml.symm) d0 d3 d4 d6 d9 (by rw [htab, htab0]; intro x hx; cases hx) (by show 2 + 3 < d + 6; omega) ?_ (by show cells + 1 ≤ mc; omega) (by show slots + 6 ≤ ms; omega) hlocks (fun t hvm hz hq => ?_) (xS_free h6) (by omega) (by omega)
  · show ((st.map (xcv ad)).map fun v => v.category).sum + (13 * (2 + 1) + 43) ≤ 60 * d + 300
    rw [List.map_map]
    have : ((fun v : Value => v.category) ∘ xcv ad) = Value.category := funext fun v => xcv_cat
    rw [this]; omega
  · exact ⟨⟨1, σ, ad, rfl, by decide, h, h1, h2, h5.1.kept (fun k q hk => hq q.1 ((h5.1 k q hk).lt)), h5.2⟩, Nat.le_trans h6.1 hz, fun q g1 g2 => (hq q (Nat.lt_of_lt_of_le g1 h6.1)).trans (h6.2.1 q g1 g2)⟩

theorem xv_throw2 (hu : u.1 = RX11) (htab0 : u.2.2.2.2.1 = []) (w1 : Cond.classLink RX11 421 "java/lang/IllegalStateException" ∈ xw) (w2 : Cond.initialized "java/lang/IllegalStateException" ∈ xw)
    (d0 : decode u.2.1 pc = .ok (.new 421, 3)) (d3 : decode u.2.1 (pc + 3) = .ok (.dup, 1)) (d4 : decode u.2.1 (pc + 4) = .ok (.ldc_w 423, 3)) (d6 : decode u.2.1 (pc + 7) = .ok (.invokespecial 425, 3)) (d9 : decode u.2.1 (pc + 10) = .ok (.athrow, 1))
    (hW : (st.map Value.category).sum ≤ 8) (hkc : 1 ≤ kc) (hks : 6 ≤ ks) (h : Qx 2 σ) : Ev l G u d Qr Qx kc ks pc ls st σ := by
  intro p e s m args below meth c9 C9 n0 ad0 ad H locs cells slots mc ms lsA h1 h2 h3 h4 h5 h6 h7 h8
  obtain ⟨hx, hb, hr, hml, hts, hown, hlocks, hfl, htab, hnm, hK, hH⟩ := C9
  rw [hu] at hown
  refine vx_throwSW (names := ["java/lang/RuntimeException", "java/lang/Exception"]) (A := xA G) hx hb hfl hown (by decide +kernel) (by decide +kernel) (hts _ w1) (hts _ w2) hK.2.1.2.2 (xat2 hts hK.2.2.1.2.2 hK.2.2.2.2.2.1) (by decide +kernel) hH.1.1 hH.1.2 h6 (h4.1.trans hml.symm) d0 d3 d4 d6 d9 (by rw [htab, htab0]; intro x hx; cases hx) (by show 2 + 3 < d + 6; omega) ?_ (by show cells + 1 ≤ mc; omega) (by show slots + 6 ≤ ms; omega) hlocks (fun t hvm hz hq => ?_) (xS_free h6) (by omega) (by omega)
  · show ((st.map (xcv ad)).map fun v => v.category).sum + (13 * (2 + 1) + 43) ≤ 60 * d + 300
    rw [List.map_map]
    have : ((fun v : Value => v.category) ∘ xcv ad) = Value.category := funext fun v => xcv_cat
    rw [this]; omega
  · exact ⟨⟨2, σ, ad, rfl, by decide, h, h1, h2, h5.1.kept (fun k q hk => hq q.1 ((h5.1 k q hk).lt)), h5.2⟩, Nat.le_trans h6.1 hz, fun q g1 g2 => (hq q (Nat.lt_of_lt_of_le g1 h6.1)).trans (h6.2.1 q g1 g2)⟩

theorem xv_slen (hd : decode u.2.1 pc = .ok (.arraylength, 1)) (K : Ev l G u d Qr Qx kc ks (pc + 1) ls (iv (G.2.2.2.1.2.1 : Int) :: st) σ) : Ev l G u d Qr Qx kc ks pc ls (.ref xSCR :: st) σ := by
  intro p e s m args below meth c9 C9 n0 ad0 ad H locs cells slots mc ms lsA h1 h2 h3 h4 h5 h6 h7 h8
  have C' := C9
  obtain ⟨hx, hb, hr, hml, hts, hown, hlocks, hfl, htab, hnm, hK, hH⟩ := C'
  show W p l e _ s m args below meth c9 H locs cells slots _ (F0 m pc lsA (.ref (ad xSCR) :: st.map (xcv ad)))
  rw [h3]
  refine va_slen hx hb hH.2.1 (Nat.lt_of_lt_of_le hH.2.2.1 hH.2.2.2) (Nat.not_le.mpr hH.2.2.1) h6 hd ?_
  rw [← Int32.ofInt_eq_ofNat]
  exact K p e s m args below meth c9 C9 n0 ad0 ad H locs cells slots mc ms lsA h1 h2 h3 h4 h5 h6 h7 h8
theorem xv_sld {z : Int} {k : Nat} (hz : z = (k : Int)) (hk : k < G.2.2.2.1.2.1) (hn : G.2.2.2.1.2.1 ≤ 2147483648) (hd : decode u.2.1 pc = .ok (.iaload, 1)) (K : Ev l G u d Qr Qx kc ks (pc + 1) ls (iv (G.2.2.2.1.2.2 k).toInt :: st) σ) : Ev l G u d Qr Qx kc ks pc ls (iv z :: .ref xSCR :: st) σ := by
  subst hz
  intro p e s m args below meth c9 C9 n0 ad0 ad H locs cells slots mc ms lsA h1 h2 h3 h4 h5 h6 h7 h8
  have C' := C9
  obtain ⟨hx, hb, hr, hml, hts, hown, hlocks, hfl, htab, hnm, hK, hH⟩ := C'
  show W p l e _ s m args below meth c9 H locs cells slots _ (F0 m pc lsA (iv (k : Int) :: .ref (ad xSCR) :: st.map (xcv ad)))
  rw [h3]
  refine va_sld hx hb hH.2.1 (Nat.lt_of_lt_of_le hH.2.2.1 hH.2.2.2) (Nat.not_le.mpr hH.2.2.1) h6 (xin hk hn) hd ?_
  rw [xclamp (Nat.lt_of_lt_of_le hk hn)]
  have K := K p e s m args below meth c9 C9 n0 ad0 ad H locs cells slots mc ms lsA h1 h2 h3 h4 h5 h6 h7 h8
  have e9 : (iv (G.2.2.2.1.2.2 k).toInt : Value) = .int (G.2.2.2.1.2.2 k) := by
    show Value.int (Int32.ofInt _) = _
    rw [Int32.ofInt_toInt]
  rw [e9] at K
  exact K
/-- caught here; what was thrown is put aside -/
theorem xx_catch {k : Nat} {pre suf : List ExceptionTableEntry} {x : ExceptionTableEntry} {j ln : Nat} {ia : Instr} (hsplit : u.2.2.2.2.1 = pre ++ x :: suf)
    (hpass : ∀ z ∈ pre, z.catchType ≠ 0 ∧ ∃ i : Nat, Cond.classLink u.1 z.catchType (xen i) ∈ xw ∧ (k = 1 ∧ i = 0 ∨ k = 2 ∧ i = 0 ∨ k = 2 ∧ i = 1)) (hk : k = 0 ∨ k = 1 ∨ k = 2) (hx0 : covers x pc = true) (hx1 : x.catchType ≠ 0)
    (w1 : Cond.classLink u.1 x.catchType (xen k) ∈ xw) (hj : j < u.2.2.1) (hd : (decode u.2.1 x.handlerPc = .ok (.astore j, 2) ∧ ln = 2) ∨ ∃ f : Fin 4, (f : Nat) = j ∧ decode u.2.1 x.handlerPc = .ok (.astore_n f, 1) ∧ ln = 1)
    (K : Ev l G u d Qr Qx kc ks (x.handlerPc + ln) [] [] σ) : Xv l G u d Qr Qx kc ks pc ls st σ k := by
  intro p e s m args below meth c9 C9 n0 ad0 ad H locs cells slots mc ms lsA q ce h1 h2 h3 h4 h5 h6 h7 h8 h9 h10 h11
  have C' := C9
  obtain ⟨hx, hb, hr, hml, hts, hown, hlocks, hfl, htab, hnm, hK, hH⟩ := C'
  have hcast : va_Nw (.castable (xen k) (xen k)) s := by
    rcases hk with rfl | rfl | rfl
    · exact hK.2.2.1.1
    · exact hK.2.2.1.2.1
    · exact hK.2.2.1.2.2
  refine vx_catch hown pre x suf (htab.trans hsplit) (fun z hz => ?_) hx0 hx1 (hts _ w1) (va_Nw.use rfl hcast) h9 h10 h11 ?_
  · obtain ⟨g1, i, g2, g3⟩ := hpass z hz
    refine Or.inr ⟨g1, xen i, hts _ g2, ?_⟩
    rcases g3 with ⟨rfl, rfl⟩ | ⟨rfl, rfl⟩ | ⟨rfl, rfl⟩
    · exact hK.2.2.2.1.1
    · exact hK.2.2.2.1.2.1
    · exact hK.2.2.2.1.2.2
  · have fin : ∀ lsB : Array Slot, ∀ lv, lv_has lsB u.2.2.1 lv → W p l e (xR d mc ms) s m args below meth c9 H locs cells slots (vx_MQ below (xQ G n0 ad0 Qr) (xX G n0 ad0 Qx) args s mc ms (xA G)) (F0 m (x.handlerPc + ln) lsB []) := fun lsB lv hB =>
      K p e s m args below meth c9 C9 n0 ad0 ad H locs cells slots mc ms lsB h1 h2 h3 ⟨hB.1, hB.2.1, fun i v hv => by simp at hv⟩ h5 h6 h7 h8
    rcases hd with ⟨hd, rfl⟩ | ⟨f, hf, hd, rfl⟩
    · exact lv_astore hx hb hd h4.has hj rfl (fun lsB hB => fin lsB _ hB)
    · exact lv_astore_n hx hb hd hf h4.has hj rfl (fun lsB hB => fin lsB _ hB)
end XTHROW
/-- the contract of a method with a table of its own -/
def CtW (l : Launch) (G : xG) (y : MethodName) (cc : ByteArray) (nL : Nat) (ret : Option FieldType) (hh : List (Nat × Nat × Nat × Nat)) (d : Nat) (Qr : Option Value → xS → Prop) (Qx : Nat → xS → Prop) (kc ks : Nat) (vs : List Value) (σ : xS) : Prop :=
  ∀ ad : Nat → Nat, ad xSCR = G.2.2.2.1.1 → vx_Met l y (.codeWith y cc nL ret hh :: xw) (xR d kc ks) (va_Pc (vs.map (xcv ad)) (fun U => xK G U ∧ xH G U U.heap ∧ xP G σ ad U.heap)) (xQ G σ.1.1 ad Qr) (xX G σ.1.1 ad Qx) kc ks (xA G)
section XTAB
variable {l : Launch} {G : xG} {u : xU} {d : Nat} {Qr : Option Value → xS → Prop} {Qx : Nat → xS → Prop} {kc ks kc0 ks0 pc : Nat} {ls : List (Option Value)} {st : List Value} {σ : xS}
theorem xct_ofW {y : MethodName} {cc : ByteArray} {nL : Nat} {ret : Option FieldType} {hh : List (Nat × Nat × Nat × Nat)} {vs : List Value} {ls : List (Option Value)} (hl : l.stackTraces = false) (hy : plainName y.cls = true) (hlen : (lg_sl vs).length ≤ nL) (hls : ∀ (i : Nat) (v : Value), ls[i]? = some (some v) → (xsl vs)[i]? = some (some v))
    (h : Ev l G (y.cls, cc, nL, ret, tableOf hh, y.name) d Qr Qx kc ks 0 ls [] σ) : CtW l G y cc nL ret hh d Qr Qx kc ks vs σ := by
  intro ad had
  refine vx_ofWH (cc := cc) (maxL := nL) (ret := ret) (hh := hh) hy rfl ?_
  intro p e s m args below meth c s₁ B hml hv
  obtain ⟨rfl, hK, hH, hP⟩ := hv
  have hts := atoms_spec (ws := .codeWith y cc nL ret hh :: xw) B.pre
  have hC : xC l G (y.cls, cc, nL, ret, tableOf hh, y.name) p s m (vs.map (xcv ad)).toArray meth c :=
    ⟨B.exec, B.bytes, B.returns, hml, fun w hw => hts w (List.mem_cons_of_mem _ hw), findClass_of_methodNamed B.named, B.notSynchronized, hl, vx_table (x := y) B (hts _ List.mem_cons_self), (name_of_methodNamed B.named B.method).1, hK, hH⟩
  have hlen2 : (lg_sl (vs.map (xcv ad))).length ≤ nL := by
    have : ∀ vs : List Value, (lg_sl (vs.map (xcv ad))).length = (lg_sl vs).length := by
      intro vs
      unfold lg_sl
      induction vs with
      | nil => rfl
      | cons v vs ih =>
        simp only [List.map_cons, List.flatMap_cons, List.length_append, xcv_cat, ih]
        by_cases q : v.category = 2 <;> simp [q]
    rw [this]; exact hlen
  have hle := lv_entry (vs.map (xcv ad)) (n := nL) hlen2
  rw [lg_entry_eq]
  refine h p e s m _ below meth c hC σ.1.1 ad ad s.heap [] 0 0 kc ks _ (Nat.le_refl _) xE.refl had ⟨hle.1, hle.2.1, fun i v hi => ?_⟩ hP va_S.rf (by omega) (by omega)
  have := xsl_get ad vs 0 i v (hls i v hi)
  rw [Nat.zero_add] at this
  exact hle.2.2 _ this
theorem xv_callW {n d' nL' kc' ks' idx : Nat} {y : MethodName} {cc' : ByteArray} {ret' : Option FieldType} {hh : List (Nat × Nat × Nat × Nat)} {Qr' : Option Value → xS → Prop} {Qx' : Nat → xS → Prop} {vs st0 : List Value}
    (hM : CtW l G y cc' nL' ret' hh d' Qr' Qx' kc' ks' vs σ)
    (w1 : Cond.methodLink u.1 idx y ∈ xw) (w2 : Cond.static y ∈ xw) (w4 : Cond.initialized y.cls ∈ xw) (w5 : Cond.codeWith y cc' nL' ret' hh ∈ xw)
    (hp : y.cls ≠ "java/lang/invoke/MethodHandle" ∧ y.cls ≠ "java/lang/invoke/VarHandle" ∧ (parseMethodDescriptor y.desc).map (fun d => d.parameters.length) = some n) (hn : vs.length = n) (hdl : d' < d) (hnl : nL' ≤ 41)
    (hW : (st.map Value.category).sum ≤ 8) (hd : decode u.2.1 pc = .ok (.invokestatic idx, 3)) (hs0 : st0 = vs.reverse ++ st)
    (hkc : kc + kc' ≤ kc0) (hks : ks + ks' ≤ ks0)
    (hok : xkp Qr' Qx' ls st σ)
    (kr : ∀ v σ', Qr' v σ' → σ.1.1 ≤ σ'.1.1 → Ev l G u d Qr Qx kc ks (pc + 3) ls (v.toList ++ st) σ')
    (kx : ∀ k σ', Qx' k σ' → k < 3 → σ.1.1 ≤ σ'.1.1 → Xv l G u d Qr Qx kc ks pc ls st σ' k) : Ev l G u d Qr Qx kc0 ks0 pc ls st0 σ := by
  refine xv_run (n := n) (y := y) ?_ hkc hks hok kr kx
  intro p e s m args below meth c C9 ad H locs cells slots mc ms lsA h3 h4 h5 h6 h7 h8
  obtain ⟨hx, hb, hr, hml, hts, hown, hlocks, hfl, htab, hnm, hK, hH⟩ := C9
  have hcw : vx_CSW (xR d mc ms) s args u.1 idx y cc' nL' ret' hh (.codeWith y cc' nL' ret' hh :: xw) (xR d' kc' ks') kc' ks' n :=
    vx_cwSW n hts (xw_in (fun w hw => by
      rcases List.mem_append.mp hw with hw | hw
      · simp only [List.mem_cons, List.not_mem_nil, or_false] at hw
        rcases hw with rfl | rfl | rfl
        · exact w1
        · exact w2
        · exact w4
      · rcases List.mem_cons.mp hw with rfl | hw
        · exact w5
        · exact hw)) rfl rfl rfl hp ⟨by show d' + 6 + 1 ≤ d + 6; omega, by show 8 + (nL' + 11) + (60 * d' + 300) ≤ 60 * d + 300; omega⟩
  refine ⟨_, vx_runSX (As := vs.map (xcv ad)) (rest := st.map (xcv ad)) (nL := u.2.2.1) (cc := u.2.1) ⟨hx, hb, hml, hown, hts⟩ (hM ad h3) hcw ⟨xblind, xpre hK hH h6 h5⟩ rfl (by rw [List.length_map]; exact hn) h4.1 ?_ ?_ hd ⟨h7, h8⟩⟩
  · subst hs0
    show List.map (xcv ad) _ = _
    rw [List.map_append, List.map_reverse]
  · refine lv_room (?_ : ((st.map (xcv ad)).map fun v => v.category).sum ≤ 8)
    rw [List.map_map]
    have : ((fun v : Value => v.category) ∘ xcv ad) = Value.category := funext fun v => xcv_cat
    rw [this]; exact hW
end XTAB
