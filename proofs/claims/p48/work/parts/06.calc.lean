/-! the calculus: a method's run over a world of numbered cells: fixed layout (kinds and references), numbers by cell and place -/
abbrev xM : Type := Nat → Nat → Int
abbrev iv (z : Int) : Value := .int (Int32.ofInt z)
abbrev jv (z : Int) : Value := .long (Int64.ofInt z)
def w32 (z : Int) : Int := (Int32.ofInt z).toInt
def w64 (z : Int) : Int := (Int64.ofInt z).toInt
theorem w32_of {z : Int} (h1 : -2147483648 ≤ z) (h2 : z < 2147483648) : w32 z = z := Int32.toInt_ofInt_of_le (by simpa using h1) (by simpa using h2)
theorem w64_of {z : Int} (h1 : -9223372036854775808 ≤ z) (h2 : z < 9223372036854775808) : w64 z = z := Int64.toInt_ofInt_of_le (by simpa using h1) (by simpa using h2)
theorem xclamp {k : Nat} (h : k < 2147483648) : (Int32.ofInt (k : Int)).toNatClampNeg = k := by
  unfold Int32.toNatClampNeg
  rw [Int32.toInt_ofInt_of_le (by omega) (by simp; omega)]
  exact Int.toNat_natCast k
theorem xin {k n : Nat} (h : k < n) (hn : n ≤ 2147483648) : vp_in (Int32.ofInt (k : Int)) n := by
  unfold vp_in
  rw [xclamp (by omega)]
  rintro (q | q)
  · rw [Int32.lt_iff_toInt_lt, Int32.toInt_ofInt_of_le (by omega) (by omega), Int32.toInt_zero] at q
    omega
  · omega
abbrev xL : Type := Nat × (Nat → Nat ⊕ (Nat × Nat)) × (Nat → Nat → Option Nat)
abbrev xS : Type := xL × xM
/-- kinds' numbers; array kinds' numbers; base; the script: cell, length, ints; the texts' cells -/
abbrev xG : Type := va_G × (Nat → ClassId) × Nat × (Nat × Nat × (Nat → Int32)) × (Nat → Nat)
def xSCR : Nat := 1000000
abbrev xA (G : xG) : Nat → Prop := fun q => G.2.2.1 ≤ q
/-- the kinds of the places of an object: 0 int, 1 boolean, 2 long, 3 reference -/
def xft (ci : Nat) : List Nat := match ci with
  | 0 => [0, 0, 1, 1, 1, 2, 2, 2, 2, 3, 3, 3]
  | 1 => [3, 3, 3, 3, 3, 3, 3, 3, 3, 0, 0, 0, 0, 0, 0, 0, 0, 0]
  | 2 => [3, 3, 3, 3, 0, 0, 0, 2, 0, 0, 2]
  | 3 => [3]
  | 4 => [0, 0, 0, 0, 0, 0, 0, 1, 1, 0, 3, 3, 3]
  | 5 => [0, 0, 1, 0, 0, 0, 0, 0, 0, 0, 0, 1, 1]
  | 6 => [0, 0, 1]
  | 7 => [0, 0, 0, 2, 2, 1, 1]
  | 8 => [3]
  | 9 => [0, 0, 0, 2]
  | 10 => [0, 0, 0, 0, 0, 0, 2, 2, 2, 0, 0, 0, 0]
  | 11 => [3, 3, 3, 3, 3, 1]
  | 12 => [3, 3, 1, 3, 3, 0, 3, 0]
  | _ => []
def xz (v : Int) : Int := if v = 0 then 0 else 1
def xdec (ad : Nat → Nat) (t : Nat) (v : Int) (r : Option Nat) : Value := match t with
  | 0 => .int (Int32.ofInt v)
  | 1 => .int (Int32.ofInt (xz v))
  | 2 => .long (Int64.ofInt v)
  | _ => va_rf (r.map ad)
def xcv (ad : Nat → Nat) (v : Value) : Value := match v with
  | .ref c => .ref (ad c)
  | v => v
def xarr (ad : Nat → Nat) (a : Nat) (f : Nat → Int) (g : Nat → Option Nat) : (Nat → Int32) ⊕ (Nat → Int64) ⊕ (Nat → UInt32) ⊕ (Nat → UInt64) ⊕ (Nat → Option Nat) := match a with
  | 0 => .inl (fun j => Int32.ofInt (f j))
  | 1 => .inr (.inl (fun j => Int64.ofInt (f j)))
  | 2 => .inr (.inr (.inr (.inl (fun j => UInt64.ofNat (f j).toNat))))
  | _ => .inr (.inr (.inr (.inr (fun j => (g j).map ad))))
def xflds (ad : Nat → Nat) (ci : Nat) (f : Nat → Int) (g : Nat → Option Nat) : List Value := (List.range (xft ci).length).map (fun j => xdec ad ((xft ci).getD j 9) (f j) (g j))
def xcell (cA : Nat → ClassId) (σ : xS) (ad : Nat → Nat) (c : Nat) : va_E := match σ.1.2.1 c with
  | .inl ci => .inr (ci, xflds ad ci (σ.2 c) (σ.1.2.2 c))
  | .inr (a, n) => .inl (cA a, n, xarr ad a (σ.2 c) (σ.1.2.2 c))
def xws (cA : Nat → ClassId) (σ : xS) (ad : Nat → Nat) : va_W := (List.range σ.1.1).map (fun c => (ad c, xcell cA σ ad c))
def xtyp (a : Nat) : FieldType := match a with
  | 0 => .int
  | 1 => .long
  | 2 => .long
  | 3 => .object RX0
  | 4 => .object RX9
  | 5 => .object RX5
  | 6 => .object RX10
  | 7 => .object RX6
  | 8 => .object RX7
  | _ => .object RX4
def xtys (cA : Nat → ClassId) : List (ClassId × FieldType) := (List.range 10).map (fun a => (cA a, xtyp a))
def xP (G : xG) (σ : xS) (ad : Nat → Nat) (H : Heap) : Prop := va_P G.1 vwCl (xws G.2.1 σ ad) H ∧ va_D (xA G) (xws G.2.1 σ ad) ∧ σ.1.1 < xSCR ∧ (∀ c, σ.1.1 ≤ c → σ.1.2.1 c = .inl 99) ∧ ∀ c j c', c < σ.1.1 → σ.1.2.2 c j = some c' → c' < σ.1.1
def xen (k : Nat) : String := match k with
  | 0 => "java/lang/IndexOutOfBoundsException"
  | 1 => "java/lang/IllegalArgumentException"
  | _ => "java/lang/IllegalStateException"
abbrev xnR : String := "java/lang/RuntimeException"
abbrev xnE : String := "java/lang/Exception"
/-- calls of what is private to another class of the nest -/
def xKn (U : State) : Prop := va_Nw (.methodLinkNest RX11 9 yX8_init RX11) U ∧ va_Nw (.methodLinkNest RX0 55 yX11_copyAll RX11) U ∧ va_Nw (.methodLinkNest RX1 122 yX11_copyAll RX11) U ∧ va_Nw (.methodLinkNest RX1 61 yX0_init RX11) U ∧ va_Nw (.methodLinkNest RX1 62 yX9_init RX11) U ∧ va_Nw (.methodLinkNest RX1 63 yX5_init RX11) U ∧ va_Nw (.methodLinkNest RX1 67 yX6_init RX11) U ∧ va_Nw (.methodLinkNest RX1 68 yX7_init RX11) U ∧ va_Nw (.methodLinkNest RX1 69 yX4_init RX11) U ∧ va_Nw (.methodLinkNest RX2 231 yX11_sumOf RX11) U ∧ va_Nw (.methodLinkNest RX4 57 yX11_copyAll RX11) U
theorem xKn.warm {s U : State} (hW : s.WarmedH U.vm) (h : xKn s) : xKn U := by
  obtain ⟨h0, h1, h2, h3, h4, h5, h6, h7, h8, h9, h10⟩ := h
  exact ⟨h0.warmM hW, h1.warmM hW, h2.warmM hW, h3.warmM hW, h4.warmM hW, h5.warmM hW, h6.warmM hW, h7.warmM hW, h8.warmM hW, h9.warmM hW, h10.warmM hW⟩
/-- what is known of the tables alone, at every method's entry -/
def xK (G : xG) (U : State) : Prop := va_K G.1 vwCl (xtys G.2.1) U ∧
  (vk_R RX11 411 "there is none of this number" (G.2.2.2.2 0) U ∧ vk_R RX11 418 "an argument is out of its range" (G.2.2.2.2 1) U ∧ vk_R RX11 423 "the state does not allow it" (G.2.2.2.2 2) U) ∧
  (va_Nw (.castable (xen 0) (xen 0)) U ∧ va_Nw (.castable (xen 1) (xen 1)) U ∧ va_Nw (.castable (xen 2) (xen 2)) U) ∧
  (va_Nc (xen 1) (xen 0) U ∧ va_Nc (xen 2) (xen 0) U ∧ va_Nc (xen 2) (xen 1) U) ∧
  (va_AO RX0 U ∧ va_AO RX9 U ∧ va_AO RX5 U ∧ va_AO RX10 U ∧ va_AO RX6 U ∧ va_AO RX7 U ∧ va_AO RX4 U) ∧
  (va_Nw (.declares (Bundle.initS xnR)) U ∧ va_Nw (.declares (Bundle.initS xnE)) U ∧ va_Nw (.declares (Bundle.initS Bundle.tN)) U) ∧ xKn U
/-- .. and of the cells that no method writes -/
def xH (G : xG) (U : State) (H : Heap) : Prop := (vx_Zq Bundle.tN "UNASSIGNED_STACK" Bundle.steD (xA G) U H ∧ vx_Zq Bundle.tN "SUPPRESSED_SENTINEL" Bundle.listD (xA G) U H) ∧
  va_X G.2.2.2.1.1 G.2.2.2.1.2.1 G.2.2.2.1.2.2 U H ∧ G.2.2.2.1.1 < G.2.2.1 ∧ G.2.2.1 ≤ H.size
abbrev xU : Type := String × ByteArray × Nat × Option FieldType × List ExceptionTableEntry × String
abbrev xR (d mc ms : Nat) : Room := { frames := d + 6, cells := mc, slots := ms, locals := 60 * d + 300 }
def xC (l : Launch) (G : xG) (u : xU) (p : Program) (s : State) (m : MethodId) (args : Array Value) (meth : Method) (c : Code) : Prop :=
  p.tables.exec = Jvm.exec ∧ c.code = u.2.1 ∧ meth.sig.returnType = u.2.2.2.1 ∧ c.maxLocals = u.2.2.1 ∧ (∀ w ∈ xw, w.before args s = true) ∧ s.vm.findClass u.1 = some m.cls ∧ meth.locks = false ∧ l.stackTraces = false ∧ c.exceptionTable.toList = u.2.2.2.2.1 ∧ meth.name = u.2.2.2.2.2 ∧ xK G s ∧ xH G s s.heap
def xLs (lsA : Array Slot) (nL : Nat) (ad : Nat → Nat) (ls : List (Option Value)) : Prop := lsA.size = nL ∧ lv_wf lsA ∧ ∀ (i : Nat) (v : Value), ls[i]? = some (some v) → lsA[i]? = some (.val (xcv ad v))
def xE (n0 : Nat) (ad0 : Nat → Nat) (n : Nat) (ad : Nat → Nat) : Prop := (∀ c, c < n0 ∨ c = xSCR → ad c = ad0 c) ∧ (n = n0 → ad = ad0)
def xQ (G : xG) (n0 : Nat) (ad0 : Nat → Nat) (Qr : Option Value → xS → Prop) : Array Value → State → Outcome → State → Prop := fun _ st o t =>
  (∃ (v : Option Value) (σ : xS) (ad : Nat → Nat), o = .returned (v.map (xcv ad)) ∧ Qr v σ ∧ n0 ≤ σ.1.1 ∧ xE n0 ad0 σ.1.1 ad ∧ xP G σ ad t.heap) ∧ va_F (xA G) st t
def xX (G : xG) (n0 : Nat) (ad0 : Nat → Nat) (Qx : Nat → xS → Prop) : String → State → State → Prop := fun E st t =>
  (∃ (k : Nat) (σ : xS) (ad : Nat → Nat), E = xen k ∧ k < 3 ∧ Qx k σ ∧ n0 ≤ σ.1.1 ∧ xE n0 ad0 σ.1.1 ad ∧ xP G σ ad t.heap) ∧ va_F (xA G) st t
/-- from here the method ends with Qr, or throws with Qx -/
def Ev (l : Launch) (G : xG) (u : xU) (d : Nat) (Qr : Option Value → xS → Prop) (Qx : Nat → xS → Prop) (kc ks pc : Nat) (ls : List (Option Value)) (st : List Value) (σ : xS) : Prop :=
  ∀ (p : Program) (e : Env) (s : State) (m : MethodId) (args : Array Value) (below : List Frame) (meth : Method) (c : Code), xC l G u p s m args meth c →
  ∀ (n0 : Nat) (ad0 ad : Nat → Nat) (H : Heap) (locs : List Loc) (cells slots mc ms : Nat) (lsA : Array Slot),
    n0 ≤ σ.1.1 → xE n0 ad0 σ.1.1 ad → ad xSCR = G.2.2.2.1.1 → xLs lsA u.2.2.1 ad ls → xP G σ ad H → va_S (xA G) s.heap H locs → cells + kc ≤ mc → slots + ks ≤ ms →
    W p l e (xR d mc ms) s m args below meth c H locs cells slots (vx_MQ below (xQ G n0 ad0 Qr) (xX G n0 ad0 Qx) args s mc ms (xA G)) (F0 m pc lsA (st.map (xcv ad)))
/-- a method's contract at these arguments, in this state -/
def Ct (l : Launch) (G : xG) (y : MethodName) (cc : ByteArray) (nL : Nat) (ret : Option FieldType) (d : Nat) (Qr : Option Value → xS → Prop) (Qx : Nat → xS → Prop) (kc ks : Nat) (vs : List Value) (σ : xS) : Prop :=
  ∀ ad : Nat → Nat, ad xSCR = G.2.2.2.1.1 → vx_Met l y (.code y cc nL ret :: xw) (xR d kc ks) (va_Pc (vs.map (xcv ad)) (fun U => xK G U ∧ xH G U U.heap ∧ xP G σ ad U.heap)) (xQ G σ.1.1 ad Qr) (xX G σ.1.1 ad Qx) kc ks (xA G)
theorem xK.warm {G : xG} {s U : State} (hW : s.WarmedH U.vm) (h : xK G s) : xK G U := by
  obtain ⟨h1, ⟨h2, h3, h4⟩, ⟨h5, h6, h7⟩, ⟨h8, h9, h10⟩, ⟨h11, h12, h13, h14, h15, h16, h17⟩, ⟨h18, h19, h20⟩, h21⟩ := h
  exact ⟨h1.moved hW.alike, ⟨h2.warm hW, h3.warm hW, h4.warm hW⟩, ⟨h5.warmC hW, h6.warmC hW, h7.warmC hW⟩, ⟨h8.moved hW.alike, h9.moved hW.alike, h10.moved hW.alike⟩, ⟨h11.moved hW.alike, h12.moved hW.alike, h13.moved hW.alike, h14.moved hW.alike, h15.moved hW.alike, h16.moved hW.alike, h17.moved hW.alike⟩, ⟨h18.warmD hW, h19.warmD hW, h20.warmD hW⟩, h21.warm hW⟩
theorem xH.moved {G : xG} {u U : State} {H : Heap} (hvm : u.vm.Alike U.vm) (h : xH G u H) : xH G U H := by
  obtain ⟨⟨h1, h2⟩, h3, h4, h5⟩ := h
  exact ⟨⟨h1.moved hvm, h2.moved hvm⟩, h3.moved hvm, h4, h5⟩
theorem xH.kept {G : xG} {U : State} {H H1 : Heap} (h : xH G U H) (hz : H.size ≤ H1.size) (hq : ∀ a : Nat, a < H.size → ¬ xA G a → H1[a]? = H[a]?) : xH G U H1 := by
  obtain ⟨⟨h1, h2⟩, h3, h4, h5⟩ := h
  exact ⟨⟨h1.kept hq, h2.kept hq⟩, h3.kept (hq _ (Nat.lt_of_lt_of_le h4 h5) (Nat.not_le.mpr h4)), h4, Nat.le_trans h5 hz⟩
theorem xE.refl {n : Nat} {ad : Nat → Nat} : xE n ad n ad := ⟨fun _ _ => rfl, fun _ => rfl⟩
theorem xE.trans {n0 n1 n2 : Nat} {a b c : Nat → Nat} (h : xE n0 a n1 b) (h2 : xE n1 b n2 c) (hn : n0 ≤ n1) (hn2 : n1 ≤ n2) : xE n0 a n2 c :=
  ⟨fun k hk => by
    rw [h2.1 k (hk.elim (fun z => Or.inl (Nat.lt_of_lt_of_le z hn)) Or.inr)]
    exact h.1 k hk, fun e => by rw [h2.2 (by omega), h.2 (by omega)]⟩
theorem xws_get {cA : Nat → ClassId} {σ : xS} {ad : Nat → Nat} {c : Nat} (h : c < σ.1.1) : (xws cA σ ad)[c]? = some (ad c, xcell cA σ ad c) := by
  unfold xws
  rw [List.getElem?_map, List.getElem?_range h]
  rfl
theorem xws_len {cA : Nat → ClassId} {σ : xS} {ad : Nat → Nat} : (xws cA σ ad).length = σ.1.1 := by simp [xws]
theorem xtys_get {cA : Nat → ClassId} {a : Nat} (h : a < 10) : (xtys cA)[a]? = some (cA a, xtyp a) := by
  unfold xtys
  rw [List.getElem?_map, List.getElem?_range h]
  rfl
theorem xcell_o {cA : Nat → ClassId} {σ : xS} {ad : Nat → Nat} {c ci : Nat} (h : σ.1.2.1 c = .inl ci) : xcell cA σ ad c = .inr (ci, xflds ad ci (σ.2 c) (σ.1.2.2 c)) := by
  unfold xcell; rw [h]
theorem xcell_a {cA : Nat → ClassId} {σ : xS} {ad : Nat → Nat} {c a n : Nat} (h : σ.1.2.1 c = .inr (a, n)) : xcell cA σ ad c = .inl (cA a, n, xarr ad a (σ.2 c) (σ.1.2.2 c)) := by
  unfold xcell; rw [h]
theorem xflds_get {ad : Nat → Nat} {ci k t : Nat} {f : Nat → Int} {g : Nat → Option Nat} (h : (xft ci)[k]? = some t) : (xflds ad ci f g)[k]? = some (xdec ad t (f k) (g k)) := by
  have hk : k < (xft ci).length := (List.getElem?_eq_some_iff.mp h).1
  unfold xflds
  rw [List.getElem?_map, List.getElem?_range hk]
  show some (xdec ad ((xft ci).getD k 9) (f k) (g k)) = _
  rw [List.getD_eq_getElem?_getD, h]
  rfl
theorem xflds_len {ad : Nat → Nat} {ci : Nat} {f : Nat → Int} {g : Nat → Option Nat} : (xflds ad ci f g).length = (xft ci).length := by simp [xflds]
theorem xflds_set {ad : Nat → Nat} {ci k t : Nat} {f f' : Nat → Int} {g g' : Nat → Option Nat} {v : Value} (h : (xft ci)[k]? = some t) (hv : xdec ad t (f' k) (g' k) = v) (hf : ∀ j, j ≠ k → f' j = f j ∧ g' j = g j) :
    (xflds ad ci f g).set k v = xflds ad ci f' g' := by
  have hk : k < (xft ci).length := (List.getElem?_eq_some_iff.mp h).1
  apply List.ext_getElem?
  intro j
  by_cases hj : j = k
  · subst hj
    rw [List.getElem?_set_self (by rw [xflds_len]; exact hk), xflds_get h, hv]
  · rw [List.getElem?_set_ne (Ne.symm hj)]
    unfold xflds
    rw [List.getElem?_map, List.getElem?_map]
    cases hr : (List.range (xft ci).length)[j]? with
    | none => rfl
    | some z =>
      have hz : z = j := by
        have h2 := List.getElem?_eq_some_iff.mp hr
        obtain ⟨h3, h4⟩ := h2
        simpa using h4.symm
      subst hz
      simp only [Option.map_some]
      rw [(hf z hj).1, (hf z hj).2]
theorem xws_set {cA : Nat → ClassId} {σ σ' : xS} {ad : Nat → Nat} {c : Nat} {e : va_E} (hn : σ'.1.1 = σ.1.1) (hc : c < σ.1.1) (he : xcell cA σ' ad c = e) (ho : ∀ k, k ≠ c → xcell cA σ' ad k = xcell cA σ ad k) :
    (xws cA σ ad).set c (ad c, e) = xws cA σ' ad := by
  apply List.ext_getElem?
  intro j
  by_cases hj : j = c
  · subst hj
    rw [List.getElem?_set_self (by rw [xws_len]; exact hc), xws_get (by rw [hn]; exact hc), he]
  · rw [List.getElem?_set_ne (Ne.symm hj)]
    by_cases hl : j < σ.1.1
    · rw [xws_get hl, xws_get (by rw [hn]; exact hl), ho j hj]
    · rw [List.getElem?_eq_none (by rw [xws_len]; omega), List.getElem?_eq_none (by rw [xws_len, hn]; omega)]
def xup {α : Type} (m : Nat → Nat → α) (c k : Nat) (v : α) : Nat → Nat → α := fun a b => if a = c ∧ b = k then v else m a b
theorem xup_same {α : Type} {m : Nat → Nat → α} {c k : Nat} {v : α} : xup m c k v c k = v := by simp [xup]
theorem xup_ne {α : Type} {m : Nat → Nat → α} {c k a b : Nat} {v : α} (h : ¬ (a = c ∧ b = k)) : xup m c k v a b = m a b := by simp [xup, h]
theorem xup_row {α : Type} {m : Nat → Nat → α} {c k a : Nat} {v : α} (h : a ≠ c) : xup m c k v a = m a := by funext b; exact xup_ne (fun z => h z.1)
theorem xP.lt {G : xG} {σ : xS} {ad : Nat → Nat} {H : Heap} (h : xP G σ ad H) {c : Nat} (hc : σ.1.2.1 c ≠ .inl 99) : c < σ.1.1 := by
  rcases Nat.lt_or_ge c σ.1.1 with q | q
  · exact q
  · exact absurd (h.2.2.2.1 c q) hc
