theorem lkM_can : ∀ (t : Nat ⊕ (Nat × Nat)) (r : List (Nat × Int)), (∀ q ∈ r, xcank t q.1 q.2) → (∀ k, xcank t k 0) → ∀ k, xcank t k (lkM r k)
  | _, [], _, h0, k => h0 k
  | t, q :: r, h, h0, k => by
    rw [lkM]
    by_cases e : k = q.1
    · rw [if_pos e, e]; exact h q List.mem_cons_self
    · rw [if_neg e]; exact lkM_can t r (fun z hz => h z (List.mem_cons_of_mem _ hz)) h0 k
theorem xcank_0 (t : Nat ⊕ (Nat × Nat)) (k : Nat) : xcank t k 0 := by
  unfold xcank
  repeat' split
  all_goals first | trivial | decide | exact Or.inl rfl | (constructor <;> decide)
def xcankb (t : Nat ⊕ (Nat × Nat)) (k : Nat) (v : Int) : Bool := match t with
  | .inl ci => (match (xft ci)[k]? with
    | some 0 => decide (R32 v)
    | some 1 => decide (B01 v)
    | some 2 => decide (R64 v)
    | _ => true)
  | .inr (0, _) => decide (R32 v)
  | .inr (1, _) => decide (R64 v)
  | .inr (2, _) => decide (RD v)
  | _ => true
theorem xcankb_ok {t : Nat ⊕ (Nat × Nat)} {k : Nat} {v : Int} (h : xcankb t k v = true) : xcank t k v := by
  unfold xcankb at h
  unfold xcank
  repeat' split
  all_goals first | trivial | skip
  all_goals simp_all
  all_goals assumption
theorem xM0_can : xcan xM0 := by
  intro c k
  rw [xM0_d]
  refine lkM_can _ _ (fun q hq => xcankb_ok ?_) (xcank_0 _) k
  by_cases h : c < 401
  · exact (show ∀ c : Nat, c < 401 → ∀ q ∈ litM.getD c [], xcankb (xLty c) q.1 q.2 = true by decide +kernel) c h q hq
  · rw [List.getD_eq_getElem?_getD, List.getElem?_eq_none (by rw [show litM.length = 401 by decide +kernel]; omega)] at hq
    cases hq
theorem W_less {p : Program} {l : Launch} {e : Env} {R R' : Room} {s : State} {m : MethodId} {args : Array Value} {below : List Frame} {meth : Method} {c : Code} {H : Heap} {locs : List Loc} {cells slots : Nat} {Q : State → Prop} {g : JFrame}
    (hf : R.frames ≤ R'.frames) (hl : R.locals ≤ R'.locals) (hc : R.cells ≤ R'.cells) (hs : R.slots ≤ R'.slots) (k : W p l e R s m args below meth c H locs cells slots Q g) : W p l e R' s m args below meth c H locs cells slots Q g := by
  intro T hT X
  have h := X.room
  have hr : s.hasRoom e.platform R = true := by
    simp only [State.hasRoom, Bool.and_eq_true, decide_eq_true_eq] at h ⊢
    obtain ⟨⟨⟨⟨y, a, b, c, d, e⟩, f⟩, g⟩, i⟩ := h
    exact ⟨⟨⟨⟨by omega, by omega, by omega, by omega, by omega, e⟩, by omega⟩, by omega⟩, i⟩
  exact k T hT ⟨X.admits, X.cas, X.clock, X.frames, hr, X.hears, X.method, X.code, X.here, X.tail, X.warmed, X.limits, X.bytes, X.same⟩
theorem W_post {p : Program} {l : Launch} {e : Env} {R : Room} {s : State} {m : MethodId} {args : Array Value} {below : List Frame} {meth : Method} {c : Code} {H : Heap} {locs : List Loc} {cells slots : Nat} {Q Q' : State → Prop} {g : JFrame}
    (h : ∀ t, Q t → Q' t) (k : W p l e R s m args below meth c H locs cells slots Q g) : W p l e R s m args below meth c H locs cells slots Q' g := by
  intro T hT X
  obtain ⟨t, a1, a2⟩ := k T hT X
  exact ⟨t, a1, h t a2⟩
theorem same_new {s t : State} {L : List Loc} {k n : Nat} (h : s.sameButNew t L k n) (hL : ∀ z ∈ L, s.heap.size ≤ z.base) : s.sameButNew t [] k n := by
  obtain ⟨h1, h2, h3, h4, h5, h6⟩ := h
  refine ⟨h1, h2, h3, h4, h5, fun a c hc => ?_⟩
  obtain ⟨c', g1, g2, g3, g4⟩ := h6 a c hc
  refine ⟨c', g1, g2, g3, fun i _ => g4 i (fun hm => ?_)⟩
  have ha : a < s.heap.size := (Array.getElem?_eq_some_iff.mp hc).1
  have := hL _ hm
  exact Nat.not_le.mpr ha this
theorem kK {s : State} {args : Array Value} (hts : ∀ w ∈ lw_tbl, w.before args s = true) : ∃ (dC : Nat → ClassId) (dI : Nat → Nat → Nat), ∀ (k : Nat) (q : vw_C), vwCl[k]? = some q → u_Kn s q.1 q.2.1 q.2.2 (dC k) (dI k) := by
  have hex : ∀ k : Nat, ∃ (cC : ClassId) (iS : Nat → Nat), ∀ q : vw_C, vwCl[k]? = some q → u_Kn s q.1 q.2.1 q.2.2 cC iS := by
    intro k
    match k with
    | 0 =>
      obtain ⟨cC, iS, h⟩ := u_known (C := RX0) (T := TX0) (N := 12) (n := 12) hts inx_0 (hts _ (lt_1 (List.mem_of_getElem? (i := 60) rfl)))
      exact ⟨cC, iS, fun q hq => by cases hq; exact h⟩
    | 1 =>
      obtain ⟨cC, iS, h⟩ := u_known (C := RX1) (T := TX1) (N := 18) (n := 18) hts inx_1 (hts _ (lt_1 (List.mem_of_getElem? (i := 41) rfl)))
      exact ⟨cC, iS, fun q hq => by cases hq; exact h⟩
    | 2 =>
      obtain ⟨cC, iS, h⟩ := u_known (C := RX2) (T := TX2) (N := 11) (n := 11) hts inx_2 (hts _ (lt_3 (List.mem_of_getElem? (i := 19) rfl)))
      exact ⟨cC, iS, fun q hq => by cases hq; exact h⟩
    | 3 =>
      obtain ⟨cC, iS, h⟩ := u_known (C := RX3) (T := TX3) (N := 1) (n := 1) hts inx_3 (hts _ (lt_3 (List.mem_of_getElem? (i := 59) rfl)))
      exact ⟨cC, iS, fun q hq => by cases hq; exact h⟩
    | 4 =>
      obtain ⟨cC, iS, h⟩ := u_known (C := RX4) (T := TX4) (N := 13) (n := 13) hts inx_4 (hts _ (lt_2 (List.mem_of_getElem? (i := 121) rfl)))
      exact ⟨cC, iS, fun q hq => by cases hq; exact h⟩
    | 5 =>
      obtain ⟨cC, iS, h⟩ := u_known (C := RX5) (T := TX5) (N := 13) (n := 13) hts inx_5 (hts _ (lt_1 (List.mem_of_getElem? (i := 147) rfl)))
      exact ⟨cC, iS, fun q hq => by cases hq; exact h⟩
    | 6 =>
      obtain ⟨cC, iS, h⟩ := u_known (C := RX6) (T := TX6) (N := 3) (n := 3) hts inx_6 (hts _ (lt_2 (List.mem_of_getElem? (i := 58) rfl)))
      exact ⟨cC, iS, fun q hq => by cases hq; exact h⟩
    | 7 =>
      obtain ⟨cC, iS, h⟩ := u_known (C := RX7) (T := TX7) (N := 7) (n := 7) hts inx_7 (hts _ (lt_2 (List.mem_of_getElem? (i := 79) rfl)))
      exact ⟨cC, iS, fun q hq => by cases hq; exact h⟩
    | 8 =>
      obtain ⟨cC, iS, h⟩ := u_known (C := RX8) (T := TX8) (N := 1) (n := 1) hts inx_8 (hts _ (lt_1 (List.mem_of_getElem? (i := 30) rfl)))
      exact ⟨cC, iS, fun q hq => by cases hq; exact h⟩
    | 9 =>
      obtain ⟨cC, iS, h⟩ := u_known (C := RX9) (T := TX9) (N := 4) (n := 4) hts inx_9 (hts _ (lt_1 (List.mem_of_getElem? (i := 121) rfl)))
      exact ⟨cC, iS, fun q hq => by cases hq; exact h⟩
    | 10 =>
      obtain ⟨cC, iS, h⟩ := u_known (C := RX10) (T := TX10) (N := 13) (n := 13) hts inx_10 (hts _ (lt_1 (List.mem_of_getElem? (i := 217) rfl)))
      exact ⟨cC, iS, fun q hq => by cases hq; exact h⟩
    | 11 =>
      obtain ⟨cC, iS, h⟩ := u_known (C := RX11) (T := TX11) (N := 6) (n := 6) hts inx_11 (hts _ (lt_1 (List.mem_of_getElem? (i := 22) rfl)))
      exact ⟨cC, iS, fun q hq => by cases hq; exact h⟩
    | k + 12 => exact ⟨0, fun _ => 0, fun q hq => by simp [vwCl] at hq⟩
  exact ⟨fun k => Classical.choose (hex k), fun k => Classical.choose (Classical.choose_spec (hex k)), fun k => Classical.choose_spec (Classical.choose_spec (hex k))⟩
theorem kArrT {s : State} {args : Array Value} {ty : FieldType} (hne : ∀ n, ty ≠ .object n) (h : (Cond.arrayClass ty).before args s = true) : ∃ cA : ClassId, ArrOfT s cA ty ∧ va_RA s cA ty := by
  obtain ⟨c, k, comp, h1, h2, h3⟩ := Cond.arrayClass_spec h
  refine ⟨c, fun n z => ⟨fun k h => ?_, k, h2, comp, h3⟩, ?_⟩
  · cases h
  · cases ty <;> first | exact h1 | exact absurd rfl (hne _)
theorem kArrO {s : State} {args : Array Value} {C : String} (h : (Cond.arrayOver (.object C)).before args s = true) : ∃ cA : ClassId, ArrOfT s cA (.object C) ∧ va_RA s cA (.object C) := by
  obtain ⟨comp, c, k, h1, h2, h3, h4, h5⟩ := Cond.arrayOver_spec h
  exact ⟨c, fun n z => ⟨fun k h => (by cases h), k, h3, comp, h4⟩, k, comp, h3, h4, h1, h5⟩
theorem kA {s : State} {args : Array Value} (hts : ∀ w ∈ lw_tbl, w.before args s = true) : ∃ cA : Nat → ClassId, ∀ a, a < 10 → ArrOfT s (cA a) (xtyp a) ∧ va_RA s (cA a) (xtyp a) := by
  have hex : ∀ a : Nat, ∃ cA : ClassId, a < 10 → ArrOfT s cA (xtyp a) ∧ va_RA s cA (xtyp a) := by
    intro a
    match a with
    | 0 => obtain ⟨c, h⟩ := kArrT (fun _ z => by cases z) (hts _ (lt_1 (List.mem_of_getElem? (i := 39) rfl))); exact ⟨c, fun _ => h⟩
    | 1 => obtain ⟨c, h⟩ := kArrT (fun _ z => by cases z) (hts _ (lt_1 (List.mem_of_getElem? (i := 120) rfl))); exact ⟨c, fun _ => h⟩
    | 2 => obtain ⟨c, h⟩ := kArrT (fun _ z => by cases z) (hts _ (lt_1 (List.mem_of_getElem? (i := 120) rfl))); exact ⟨c, fun _ => h⟩
    | 3 => obtain ⟨c, h⟩ := kArrO (hts _ (lt_1 (List.mem_of_getElem? (i := 47) rfl))); exact ⟨c, fun _ => h⟩
    | 4 => obtain ⟨c, h⟩ := kArrO (hts _ (lt_1 (List.mem_of_getElem? (i := 49) rfl))); exact ⟨c, fun _ => h⟩
    | 5 => obtain ⟨c, h⟩ := kArrO (hts _ (lt_1 (List.mem_of_getElem? (i := 51) rfl))); exact ⟨c, fun _ => h⟩
    | 6 => obtain ⟨c, h⟩ := kArrO (hts _ (lt_1 (List.mem_of_getElem? (i := 53) rfl))); exact ⟨c, fun _ => h⟩
    | 7 => obtain ⟨c, h⟩ := kArrO (hts _ (lt_1 (List.mem_of_getElem? (i := 55) rfl))); exact ⟨c, fun _ => h⟩
    | 8 => obtain ⟨c, h⟩ := kArrO (hts _ (lt_1 (List.mem_of_getElem? (i := 57) rfl))); exact ⟨c, fun _ => h⟩
    | 9 => obtain ⟨c, h⟩ := kArrO (hts _ (lt_1 (List.mem_of_getElem? (i := 59) rfl))); exact ⟨c, fun _ => h⟩
    | a + 10 => exact ⟨0, fun h => absurd h (by omega)⟩
  exact ⟨fun a => Classical.choose (hex a), fun a => Classical.choose_spec (hex a)⟩
theorem Ev_back {l : Launch} {G : xG} {u : xU} {d : Nat} {Qr : Option Value → xS → Prop} {Qx : Nat → xS → Prop} {kc ks pc : Nat} {ls : List (Option Value)} {st : List Value} {σ : xS} {a : Nat} (h : Ev l (setN G a) u d Qr Qx kc ks pc ls st σ) : Ev l G u d Qr Qx kc ks pc ls st σ := by
  intro p e s m args below meth c C9
  obtain ⟨hx, hb, hr, hml, hts, hown, hlocks, hfl, htab, hnm, hK, hH⟩ := C9
  exact h p e s m args below meth c ⟨hx, hb, hr, hml, hts, hown, hlocks, hfl, htab, hnm, xK_set.mpr hK, hH⟩
/-- THE WHOLE, out of what the functions say -/
theorem whole_of (hpure : ∀ (sl : Nat) (sx : Nat → Int32), sl ≤ 260 → ∃ M : xM, fL_law sl sx 0 400 401 xM0 = some (.inl 1, M))
    {p : Program} {e : Env} {s : State} {m : MethodId} {below : List Frame} {meth : Method} {c : Code} (l : Launch) (hflags : l.flags = flags0) {b L : Nat} {xs : Nat → Int32} (hL : L ≤ 260) (C0 : lw_At p s m meth c b L xs) : W p l e room_1 s m #[Value.ref b] below meth c s.heap [] 0 0 (lw_Z below #[Value.ref b] s) (entryFrame m ([Value.ref b] : List Value).toArray 12) := by
  obtain ⟨hx, hb, hr, hml, hown, hts, hX, hbl, hlocks, hgv⟩ := C0
  have hst : l.stackTraces = false := by unfold Launch.stackTraces; rw [hflags]; decide
  have hfl := flat_of_before _ hgv
  obtain ⟨dC, dI, hKc⟩ := kK hts
  obtain ⟨cA, hcA⟩ := kA hts
  have hc11 : ClassAt s RX11 (dC 11) := (hKc 11 _ rfl).2
  have w411 := hts _ (lt_3 (List.mem_of_getElem? (i := 139) rfl))
  obtain ⟨-, -, -, a0, -, -, -, -, -, e0⟩ := Cond.stringRef_spec hc11.1 w411
  have w418 := hts _ (lt_5 (List.mem_of_getElem? (i := 183) rfl))
  obtain ⟨-, -, -, a1, -, -, -, -, -, e1⟩ := Cond.stringRef_spec hc11.1 w418
  have w423 := hts _ (lt_4 (List.mem_of_getElem? (i := 167) rfl))
  obtain ⟨-, -, -, a2, -, -, -, -, -, e2⟩ := Cond.stringRef_spec hc11.1 w423
  obtain ⟨M', hF⟩ := hpure L xs hL
  have hK : va_K (dC, dI) vwCl (xtys cA) s := ⟨hKc, fun k q hq => by
    have hk : k < 10 := by
      have := (List.getElem?_eq_some_iff.mp hq).1
      simpa [xtys] using this
    rw [xtys_get hk] at hq
    cases hq
    exact hcA k hk⟩
  have hKG : xK ((dC, dI), cA, s.heap.size, (b, L, xs), fun k => if k = 0 then a0 else if k = 1 then a1 else a2) s :=
    ⟨hK, ⟨vk_R.of w411 e0, vk_R.of w418 e1, vk_R.of w423 e2⟩,
      ⟨va_Nw.of rfl (hts _ (lt_3 (List.mem_of_getElem? (i := 100) rfl))), va_Nw.of rfl (hts _ (lt_5 (List.mem_of_getElem? (i := 176) rfl))), va_Nw.of rfl (hts _ (lt_4 (List.mem_of_getElem? (i := 160) rfl)))⟩,
      ⟨va_Nc.of (hfl _ (List.mem_of_getElem? (i := 18) rfl)), va_Nc.of (hfl _ (List.mem_of_getElem? (i := 19) rfl)), va_Nc.of (hfl _ (List.mem_of_getElem? (i := 33) rfl))⟩,
      ⟨va_AO.of (hts _ (lt_1 (List.mem_of_getElem? (i := 47) rfl))), va_AO.of (hts _ (lt_1 (List.mem_of_getElem? (i := 49) rfl))), va_AO.of (hts _ (lt_1 (List.mem_of_getElem? (i := 51) rfl))), va_AO.of (hts _ (lt_1 (List.mem_of_getElem? (i := 53) rfl))), va_AO.of (hts _ (lt_1 (List.mem_of_getElem? (i := 55) rfl))), va_AO.of (hts _ (lt_1 (List.mem_of_getElem? (i := 57) rfl))), va_AO.of (hts _ (lt_1 (List.mem_of_getElem? (i := 59) rfl)))⟩,
      ⟨va_Nw.of rfl (hts _ (lt_3 (List.mem_of_getElem? (i := 102) rfl))), va_Nw.of rfl (hts _ (lt_3 (List.mem_of_getElem? (i := 104) rfl))), va_Nw.of rfl (hts _ (lt_3 (List.mem_of_getElem? (i := 106) rfl)))⟩,
      ⟨va_Nw.of rfl (hts _ (lt_1 (List.mem_of_getElem? (i := 31) rfl))), va_Nw.of rfl (hts _ (lt_5 (List.mem_of_getElem? (i := 107) rfl))), va_Nw.of rfl (hts _ (lt_5 (List.mem_of_getElem? (i := 137) rfl))), va_Nw.of rfl (hts _ (lt_1 (List.mem_of_getElem? (i := 61) rfl))), va_Nw.of rfl (hts _ (lt_1 (List.mem_of_getElem? (i := 122) rfl))), va_Nw.of rfl (hts _ (lt_1 (List.mem_of_getElem? (i := 148) rfl))), va_Nw.of rfl (hts _ (lt_2 (List.mem_of_getElem? (i := 59) rfl))), va_Nw.of rfl (hts _ (lt_2 (List.mem_of_getElem? (i := 80) rfl))), va_Nw.of rfl (hts _ (lt_2 (List.mem_of_getElem? (i := 122) rfl))), va_Nw.of rfl (hts _ (lt_4 (List.mem_of_getElem? (i := 123) rfl))), va_Nw.of rfl (hts _ (lt_5 (List.mem_of_getElem? (i := 136) rfl)))⟩⟩
  have hini := hts _ (lt_1 (List.mem_of_getElem? (i := 13) rfl))
  have hno : ∀ a : Nat, a < s.heap.size → ¬ (s.heap.size ≤ a) := fun a h => Nat.not_le.mpr h
  have hHG : xH ((dC, dI), cA, s.heap.size, (b, L, xs), fun k => if k = 0 then a0 else if k = 1 then a1 else a2) s s.heap :=
    ⟨⟨vx_Zqof (hts _ (lt_3 (List.mem_of_getElem? (i := 125) rfl))) hini (hfl _ (List.mem_of_getElem? (i := 4) rfl)) hno, vx_Zqof (hts _ (lt_3 (List.mem_of_getElem? (i := 127) rfl))) hini (hfl _ (List.mem_of_getElem? (i := 5) rfl)) hno⟩, hX, hbl, Nat.le_refl _⟩
  generalize hG : (((dC, dI), cA, s.heap.size, (b, L, xs), fun k => if k = 0 then a0 else if k = 1 then a1 else a2) : xG) = G at hKG hHG
  have hGS : G.2.2.2.1.2 = (L, xs) := by rw [← hG]
  have hGb : G.2.2.2.1.1 = b := by rw [← hG]
  have hGB : G.2.2.1 = s.heap.size := by rw [← hG]
  have hcan : xcan xM0 := xM0_can
  have hrun := gL_law (G := G) (N := 401) hst c.exceptionTable.toList meth.name L xs hGS (by omega) 0 (show xLty 0 = .inl 11 by decide +kernel) 400 (show xLty 400 = .inr (0, 5) by decide +kernel) (Nat.le_refl _) xM0 hcan _ hF
  have hev := law_pre (G := G) hst c.exceptionTable.toList meth.name 28622 177564 (Ev_back hrun)
  have hC : xC l G (uL_law c.exceptionTable.toList meth.name) p s m #[Value.ref b] meth c :=
    ⟨hx, hb, hr, hml, fun w hw => hts w (xw_tbl w hw), hown, hlocks, hst, rfl, rfl, hKG, hHG⟩
  have hle := lv_entry [Value.ref b] (n := 12) (Nat.le_of_ble_eq_true rfl)
  rw [lg_entry_eq]
  have hP : xP G kBeg (fun _ => b) s.heap := ⟨fun k q h => by simp [xws, kBeg] at h, ⟨fun i j p q h => by simp [xws, kBeg] at h, fun k q h => by simp [xws, kBeg] at h⟩, by decide, fun _ _ => rfl, fun c j c' h => absurd h (Nat.not_lt_zero c)⟩
  have hw := hev p e s m #[Value.ref b] below meth c hC 0 (fun _ => b) (fun _ => b) s.heap [] 0 0 600052 7301782 _ (Nat.le_refl _) xE.refl hGb.symm ⟨hle.1, hle.2.1, fun i v hi => ?_⟩ hP va_S.rf (by omega) (by omega)
  · refine W_less (R := xR 22 600052 7301782) (by decide) (by decide) (by decide) (by decide) (W_post (fun t ht => ?_) hw)
    obtain ⟨o, h1, h2, h3⟩ := ht
    rcases h3 with ⟨⟨⟨v, σ, ad, ho, ⟨z, hz, hv, -, -⟩, -⟩, -⟩, L2, ⟨hv2, hW, hS⟩, hL2⟩ | ⟨q, -, E, ce, L2, ⟨⟨k, σ, ad, -, -, ⟨hq, -⟩, -⟩, -⟩, -⟩
    · cases hz
      subst hv
      have ho1 : o = .returned (some (.int 1)) := ho
      exact ⟨o, h1, h2, ho1, lw_closed (Drawn.sameBut.refl s.drawn lw_cs) hv2 hW (same_new hS (fun z hz => (show s.heap.size ≤ z.base from Nat.le_trans (Nat.le_of_eq hGB.symm) (hL2 z hz))))⟩
    · cases hq
  · have : i = 0 ∧ v = .ref xSCR := by
      match i, hi with
      | 0, hi => cases hi; exact ⟨rfl, rfl⟩
      | i + 1, hi =>
        exfalso
        have hm := List.mem_of_getElem? hi
        have hi2 : ([none, none, none, none, none, none, none, none, none, none, none] : List (Option Value))[i]? = some (some v) := hi
        have := List.mem_of_getElem? hi2
        simp at this
    obtain ⟨rfl, rfl⟩ := this
    exact hle.2.2 (0, .ref b) List.mem_cons_self
