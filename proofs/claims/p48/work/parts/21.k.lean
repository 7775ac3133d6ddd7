/-! the constructors: what they make -/
def kRef (c k b : Nat) (σ : xS) : xS := ((σ.1.1, σ.1.2.1, xup σ.1.2.2 c k (some b)), σ.2)
def kPut (c k : Nat) (v : Int) (σ : xS) : xS := (σ.1, xup σ.2 c k v)
def kArr (t : Nat ⊕ (Nat × Nat)) (c k : Nat) (σ : xS) : xS := kRef c k σ.1.1 (xnew σ t)
def kLoop (f : Nat → xS → xS) : Nat → Nat → xS → xS
  | 0, _, σ => σ
  | m + 1, k, σ => kLoop f m (k + 1) (f k σ)
def kObj (ini : Nat → Nat → xS → xS) (ci a k : Nat) (σ : xS) : xS := kRef a k σ.1.1 (ini k σ.1.1 (xnew σ (.inl ci)))
def k0 (c : Nat) (σ : xS) : xS := kArr (.inr (1, 44)) c 11 (kArr (.inr (1, 4)) c 10 (kArr (.inr (1, 4)) c 9 (kPut c 1 (-1) σ)))
def k4 (c : Nat) (σ : xS) : xS := kArr (.inr (1, 20)) c 12 (kArr (.inr (1, 10)) c 11 (kArr (.inr (1, 10)) c 10 σ))
def k5 (c : Nat) (σ : xS) : xS := kPut c 10 (-1) (kPut c 9 0 σ)
def k10 (c i : Nat) (σ : xS) : xS := kPut c 0 (i : Int) (kPut c 12 1 σ)
def k8 (c : Nat) (σ : xS) : xS := kArr (.inr (0, 10)) c 0 σ
def k2 (c b : Nat) (σ : xS) : xS := kRef c 0 b (kArr (.inr (1, 10)) c 3 (kArr (.inr (1, 11)) c 2 (kArr (.inr (0, 20)) c 1 σ)))
def k3 (c b : Nat) (σ : xS) : xS := kRef c 0 b σ
def k1a (c mail : Nat) (σ : xS) : xS := kRef c 0 mail (kArr (.inr (1, 9)) c 8 (kArr (.inr (9, 11)) c 7 (kArr (.inr (8, 21)) c 6 (kArr (.inr (7, 11)) c 5 (kArr (.inr (6, 21)) c 4 (kArr (.inr (5, 41)) c 3 (kArr (.inr (4, 5)) c 2 (kArr (.inr (3, 11)) c 1 σ))))))))
def k1b7 (n : Nat) (σ : xS) : xS := kLoop (fun k => kPut (n + 7) k 15) 9 0 σ
def k1b6 (n : Nat) (σ : xS) : xS := k1b7 n (kLoop (kObj (fun _ => k4) 4 (n + 6)) 11 0 σ)
def k1b5 (n : Nat) (σ : xS) : xS := k1b6 n (kLoop (kObj (fun _ _ τ => τ) 7 (n + 5)) 21 0 σ)
def k1b4 (n : Nat) (σ : xS) : xS := k1b5 n (kLoop (kObj (fun _ _ τ => τ) 6 (n + 4)) 11 0 σ)
def k1b3 (n : Nat) (σ : xS) : xS := k1b4 n (kLoop (kObj (fun k c => k10 c k) 10 (n + 3)) 21 0 σ)
def k1b2 (n : Nat) (σ : xS) : xS := k1b3 n (kLoop (kObj (fun _ => k5) 5 (n + 2)) 41 0 σ)
def k1b1 (n : Nat) (σ : xS) : xS := k1b2 n (kLoop (kObj (fun _ _ τ => τ) 9 (n + 1)) 5 0 σ)
def k1b0 (n : Nat) (σ : xS) : xS := k1b1 n (kLoop (kObj (fun _ => k0) 0 n) 11 0 σ)
def k1b (n : Nat) (σ : xS) : xS := k1b0 n σ
def k1 (c mail n : Nat) (σ : xS) : xS := k1b n (k1a c mail σ)
def k12 (c n : Nat) (σ : xS) : xS := kLoop (fun k => kPut n (196 + k) 15) 9 0 (kArr (.inr (0, 20)) c 6 (kArr (.inr (0, 10)) c 4 (kArr (.inr (0, 10)) c 3 (kArr (.inr (1, 1550)) c 1 (kArr (.inr (1, 1550)) c 0 σ)))))
/-- what is behind n, and the rows of c alone, may be new -/
def kfr (A : Nat → Prop) (n : Nat) (σ τ : xS) : Prop := n ≤ σ.1.1 ∧ σ.1.1 ≤ τ.1.1 ∧ (∀ c, c < n → τ.1.2.1 c = σ.1.2.1 c) ∧ ∀ c, c < n → ¬ A c → τ.1.2.2 c = σ.1.2.2 c
theorem kfr.rf {A : Nat → Prop} {n : Nat} {σ : xS} (h : n ≤ σ.1.1) : kfr A n σ σ := ⟨h, Nat.le_refl _, fun _ _ => rfl, fun _ _ _ => rfl⟩
theorem kfr.tr {A : Nat → Prop} {n : Nat} {σ τ υ : xS} (h : kfr A n σ τ) (h2 : kfr A n τ υ) : kfr A n σ υ := ⟨h.1, Nat.le_trans h.2.1 h2.2.1, fun c hc => (h2.2.2.1 c hc).trans (h.2.2.1 c hc), fun c hc ha => (h2.2.2.2 c hc ha).trans (h.2.2.2 c hc ha)⟩
theorem kfr.new {A : Nat → Prop} {n : Nat} {σ τ : xS} {t : Nat ⊕ (Nat × Nat)} (h : kfr A n σ τ) : kfr A n σ (xnew τ t) :=
  h.tr ⟨Nat.le_trans h.1 h.2.1, Nat.le_succ _, fun c hc => if_neg (by have := h.1; have := h.2.1; omega), fun c hc _ => funext fun k => if_neg (by have := h.1; have := h.2.1; omega)⟩
theorem kfr.ref {A : Nat → Prop} {n c k b : Nat} {σ τ : xS} (h : kfr A n σ τ) (hc : n ≤ c ∨ A c) : kfr A n σ (kRef c k b τ) :=
  h.tr ⟨Nat.le_trans h.1 h.2.1, Nat.le_refl _, fun _ _ => rfl, fun q hq ha => xup_row (by rintro rfl; rcases hc with hc | hc; omega; exact ha hc)⟩
theorem kfr.put {A : Nat → Prop} {n c k : Nat} {v : Int} {σ τ : xS} (h : kfr A n σ τ) : kfr A n σ (kPut c k v τ) := h.tr ⟨Nat.le_trans h.1 h.2.1, Nat.le_refl _, fun _ _ => rfl, fun _ _ _ => rfl⟩
theorem kfr.arr {A : Nat → Prop} {n c k : Nat} {t : Nat ⊕ (Nat × Nat)} {σ τ : xS} (h : kfr A n σ τ) (hc : n ≤ c ∨ A c) : kfr A n σ (kArr t c k τ) := h.new.ref hc
theorem kfr.wk {A B : Nat → Prop} {n n' : Nat} {σ τ : xS} (h : kfr A n σ τ) (hn : n' ≤ n) (hA : ∀ c, c < n' → A c → B c) : kfr B n' σ τ := ⟨Nat.le_trans hn h.1, h.2.1, fun c hc => h.2.2.1 c (Nat.lt_of_lt_of_le hc hn), fun c hc ha => h.2.2.2 c (Nat.lt_of_lt_of_le hc hn) (fun z => ha (hA c hc z))⟩
abbrev kNo : Nat → Prop := fun _ => False
theorem kfr_k0 {n c : Nat} {σ : xS} (h : n ≤ σ.1.1) (hc : n ≤ c) : kfr kNo n σ (k0 c σ) := ((((kfr.rf h).put).arr (Or.inl hc)).arr (Or.inl hc)).arr (Or.inl hc)
theorem kfr_k4 {n c : Nat} {σ : xS} (h : n ≤ σ.1.1) (hc : n ≤ c) : kfr kNo n σ (k4 c σ) := (((kfr.rf h).arr (Or.inl hc)).arr (Or.inl hc)).arr (Or.inl hc)
theorem kfr_k5 {n c : Nat} {σ : xS} (h : n ≤ σ.1.1) : kfr kNo n σ (k5 c σ) := (kfr.rf h).put.put
theorem kfr_k10 {n c i : Nat} {σ : xS} (h : n ≤ σ.1.1) : kfr kNo n σ (k10 c i σ) := (kfr.rf h).put.put
theorem kfr_obj {ini : Nat → Nat → xS → xS} {ci a k n : Nat} {σ : xS} (h : n ≤ σ.1.1) (hi : ∀ τ, n ≤ τ.1.1 → ∀ c, n ≤ c → kfr kNo n τ (ini k c τ)) : kfr (· = a) n σ (kObj ini ci a k σ) :=
  (((kfr.rf h).new).tr (((hi (xnew σ (.inl ci)) (Nat.le_succ_of_le h) σ.1.1 h)).wk (Nat.le_refl n) (fun _ _ z => z.elim))).ref (Or.inr rfl)
theorem kfr_loop {A : Nat → Prop} {n : Nat} {f : Nat → xS → xS} (hf : ∀ k τ, n ≤ τ.1.1 → kfr A n τ (f k τ)) : ∀ (m k : Nat) (σ : xS), n ≤ σ.1.1 → kfr A n σ (kLoop f m k σ)
  | 0, _, σ, h => kfr.rf h
  | m + 1, k, σ, h => (hf k σ h).tr (kfr_loop hf m (k + 1) (f k σ) (Nat.le_trans h (hf k σ h).2.1))
theorem kn_loop {f : Nat → xS → xS} {s : Nat} (hf : ∀ k τ, (f k τ).1.1 = τ.1.1 + s) : ∀ (m k : Nat) (σ : xS), (kLoop f m k σ).1.1 = σ.1.1 + m * s
  | 0, _, σ => by rw [Nat.zero_mul]; rfl
  | m + 1, k, σ => by rw [kLoop, kn_loop hf m (k + 1) (f k σ), hf, Nat.succ_mul]; omega
section XK
variable {l : Launch} {G : xG} {u : xU} {d : Nat} {Qr : Option Value → xS → Prop} {Qx : Nat → xS → Prop} {kc ks kc0 ks0 pc pc' : Nat} {ls : List (Option Value)} {st : List Value} {σ : xS}
theorem kx_ref {ci c k b idx N : Nat} {ref C : String} {T : u_T} {ty : FieldType} (hC : xCl ci C T N) (hc : σ.1.2.1 c = .inl ci) (ht : (xft ci)[k]? = some 3) (hw : Cond.fieldLink u.1 idx ref (T k).2.1 (T k).2.2.1 ∈ xw) (href : ref = (T k).1) (hpd : parseFieldDescriptor (T k).2.2.1 = some ty) (hty : (∃ n, ty = .object n) ∨ ∃ n, ty = .array n) (hd : decode u.2.1 pc = .ok (.putfield idx, 3)) (hp : pc' = pc + 3) (hfin : (T k).2.2.2 = true) (hin : u.2.2.2.2.2 = "<init>") (hdecl : (T k).1 = u.1) (hb : b < σ.1.1) (K : Ev l G u d Qr Qx kc ks pc' ls st (kRef c k b σ)) : Ev l G u d Qr Qx kc ks pc ls (.ref b :: .ref c :: st) σ := by
  subst hp; exact xv_putR hC hc ht hw href hpd hty hd hfin hin hdecl hb K
theorem kx_putI {ci c k idx N : Nat} {x : Int} {ref C : String} {T : u_T} (hC : xCl ci C T N) (hc : σ.1.2.1 c = .inl ci) (ht : (xft ci)[k]? = some 0) (hw : Cond.fieldLink u.1 idx ref (T k).2.1 (T k).2.2.1 ∈ xw) (href : ref = (T k).1) (hpd : parseFieldDescriptor (T k).2.2.1 = some .int) (hd : decode u.2.1 pc = .ok (.putfield idx, 3)) (hp : pc' = pc + 3) (hfin : (T k).2.2.2 = false) (K : Ev l G u d Qr Qx kc ks pc' ls st (kPut c k x σ)) : Ev l G u d Qr Qx kc ks pc ls (iv x :: .ref c :: st) σ := by
  subst hp; exact xv_putI hC hc ht hw href hpd hd hfin K
theorem kx_putIF {ci c k idx N : Nat} {x : Int} {ref C : String} {T : u_T} (hC : xCl ci C T N) (hc : σ.1.2.1 c = .inl ci) (ht : (xft ci)[k]? = some 0) (hw : Cond.fieldLink u.1 idx ref (T k).2.1 (T k).2.2.1 ∈ xw) (href : ref = (T k).1) (hpd : parseFieldDescriptor (T k).2.2.1 = some .int) (hd : decode u.2.1 pc = .ok (.putfield idx, 3)) (hp : pc' = pc + 3) (hfin : (T k).2.2.2 = true) (hin : u.2.2.2.2.2 = "<init>") (hdecl : (T k).1 = u.1) (K : Ev l G u d Qr Qx kc ks pc' ls st (kPut c k x σ)) : Ev l G u d Qr Qx kc ks pc ls (iv x :: .ref c :: st) σ := by
  subst hp; exact xv_putF (σ' := (σ.1, xup σ.2 c k x)) hC hc ht hw href hd hfin hin hdecl hpd (fun _ => rfl) (fun _ => rfl) rfl rfl (fun ad => by show Value.int (Int32.ofInt (xup σ.2 c k x c k)) = _; rw [xup_same]; rfl) (fun a b q => ⟨xup_ne q, rfl⟩) (fun c' hj => Or.inr hj) K
theorem kx_putZ {ci c k idx N : Nat} {x : Int} {ref C : String} {T : u_T} (hC : xCl ci C T N) (hc : σ.1.2.1 c = .inl ci) (ht : (xft ci)[k]? = some 1) (hw : Cond.fieldLink u.1 idx ref (T k).2.1 (T k).2.2.1 ∈ xw) (href : ref = (T k).1) (hpd : parseFieldDescriptor (T k).2.2.1 = some .boolean) (hd : decode u.2.1 pc = .ok (.putfield idx, 3)) (hp : pc' = pc + 3) (hfin : (T k).2.2.2 = false) (hx : x = 0 ∨ x = 1) (K : Ev l G u d Qr Qx kc ks pc' ls st (kPut c k x σ)) : Ev l G u d Qr Qx kc ks pc ls (iv x :: .ref c :: st) σ := by
  subst hp; exact xv_putZ hC hc ht hw href hpd hd hfin hx K
theorem kx_newa_i {n : Nat} (w1 : Cond.arrayClass .int ∈ xw) (hd : decode u.2.1 pc = .ok (.newarray .int, 2)) (hp : pc' = pc + 2) (hsm : n ≤ 100000) (hn : σ.1.1 + 1 < xSCR) (hkc : kc + 1 ≤ kc0) (hks : ks + n ≤ ks0) (hst : ∀ v ∈ st, xokv σ.1.1 v) (hls : ∀ v, some v ∈ ls → xokv σ.1.1 v) (K : Ev l G u d Qr Qx kc ks pc' ls (.ref σ.1.1 :: st) (xnew σ (.inr (0, n)))) : Ev l G u d Qr Qx kc0 ks0 pc ls (iv (n : Int) :: st) σ := by
  subst hp; exact xv_newa_i w1 hd (by rw [Int32.lt_iff_toInt_lt, Int32.toInt_ofInt_of_le (by omega) (by omega), Int32.toInt_zero]; omega) (xclamp (by omega)) (by omega) hn hkc hks hst hls K
theorem kx_newa_l {n : Nat} (w1 : Cond.arrayClass .long ∈ xw) (hd : decode u.2.1 pc = .ok (.newarray .long, 2)) (hp : pc' = pc + 2) (hsm : n ≤ 100000) (hn : σ.1.1 + 1 < xSCR) (hkc : kc + 1 ≤ kc0) (hks : ks + n ≤ ks0) (hst : ∀ v ∈ st, xokv σ.1.1 v) (hls : ∀ v, some v ∈ ls → xokv σ.1.1 v) (K : Ev l G u d Qr Qx kc ks pc' ls (.ref σ.1.1 :: st) (xnew σ (.inr (1, n)))) : Ev l G u d Qr Qx kc0 ks0 pc ls (iv (n : Int) :: st) σ := by
  subst hp; exact xv_newa_l w1 hd (by rw [Int32.lt_iff_toInt_lt, Int32.toInt_ofInt_of_le (by omega) (by omega), Int32.toInt_zero]; omega) (xclamp (by omega)) (by omega) hn hkc hks hst hls K
theorem kx_anew {n a idx : Nat} {C : String} (hao : ∀ U, xK G U → va_AO C U) (ha : 3 ≤ a) (ha2 : a < 10) (hC : xtyp a = .object C) (w1 : Cond.classLink u.1 idx C ∈ xw) (hd : decode u.2.1 pc = .ok (.anewarray idx, 3)) (hp : pc' = pc + 3) (hsm : n ≤ 100000) (hn : σ.1.1 + 1 < xSCR) (hkc : kc + 1 ≤ kc0) (hks : ks + n ≤ ks0) (hst : ∀ v ∈ st, xokv σ.1.1 v) (hls : ∀ v, some v ∈ ls → xokv σ.1.1 v) (K : Ev l G u d Qr Qx kc ks pc' ls (.ref σ.1.1 :: st) (xnew σ (.inr (a, n)))) : Ev l G u d Qr Qx kc0 ks0 pc ls (iv (n : Int) :: st) σ := by
  subst hp; exact xv_anew hao ha ha2 hC w1 hd (by rw [Int32.lt_iff_toInt_lt, Int32.toInt_ofInt_of_le (by omega) (by omega), Int32.toInt_zero]; omega) (xclamp (by omega)) (by omega) hn hkc hks hst hls K
/-- the contract of a constructor: it leaves τ -/
def Kt (l : Launch) (G : xG) (y : MethodName) (cc : ByteArray) (nL d kc ks : Nat) (vs : List Value) (σ τ : xS) : Prop := Ct l G y cc nL none d (fun v σ' => v = none ∧ σ' = τ) (fun _ _ => False) kc ks vs σ
def xYI (y : MethodName) (cc : ByteArray) (nL : Nat) (n : Nat) : Prop := Cond.instanceMethod y ∈ xw ∧ Cond.initialized y.cls ∈ xw ∧ Cond.code y cc nL none ∈ xw ∧ (y.cls ≠ "java/lang/invoke/MethodHandle" ∧ y.cls ≠ "java/lang/invoke/VarHandle" ∧ (parseMethodDescriptor y.desc).map (fun d => d.parameters.length) = some n) ∧ nL ≤ 41 ∧ y.name = "<init>"
theorem kx_callI {n d' nL' kc' ks' b idx : Nat} {y : MethodName} {cc' : ByteArray} {vs st0 : List Value} {τ : xS} (hM : Kt l G y cc' nL' d' kc' ks' (.ref b :: vs) σ τ) (B : xYI y cc' nL' n) (w1 : Cond.methodLink u.1 idx y ∈ xw) (hn : vs.length = n) (hdl : d' < d) (hW : (st.map Value.category).sum ≤ 8) (hd : decode u.2.1 pc = .ok (.invokespecial idx, 3)) (hp : pc' = pc + 3) (hs0 : st0 = vs.reverse ++ .ref b :: st) (hkc : kc + kc' ≤ kc0) (hks : ks + ks' ≤ ks0) (hst : ∀ v ∈ st, xokv σ.1.1 v) (hls : ∀ v, some v ∈ ls → xokv σ.1.1 v)
    (K : Ev l G u d Qr Qx kc ks pc' ls st τ) : Ev l G u d Qr Qx kc0 ks0 pc ls st0 σ := by
  subst hp; exact xv_callI hM B.2.2.2.2.2 w1 B.1 B.2.1 B.2.2.1 B.2.2.2.1 hn hdl B.2.2.2.2.1 hW hd hs0 hkc hks (Or.inl ⟨hst, hls⟩) (fun v σ' hq _ => by obtain ⟨rfl, rfl⟩ := hq; exact K) (fun _ _ hq => hq.elim)
theorem kx_callIN {n d' nL' kc' ks' b idx : Nat} {y : MethodName} {cc' : ByteArray} {vs st0 : List Value} {τ : xS} (hM : Kt l G y cc' nL' d' kc' ks' (.ref b :: vs) σ τ) (B : xYI y cc' nL' n) (w1 : ∀ U, xK G U → va_Nw (.methodLinkNest u.1 idx y RX11) U) (hn : vs.length = n) (hdl : d' < d) (hW : (st.map Value.category).sum ≤ 8) (hd : decode u.2.1 pc = .ok (.invokespecial idx, 3)) (hp : pc' = pc + 3) (hs0 : st0 = vs.reverse ++ .ref b :: st) (hkc : kc + kc' ≤ kc0) (hks : ks + ks' ≤ ks0) (hst : ∀ v ∈ st, xokv σ.1.1 v) (hls : ∀ v, some v ∈ ls → xokv σ.1.1 v)
    (K : Ev l G u d Qr Qx kc ks pc' ls st τ) : Ev l G u d Qr Qx kc0 ks0 pc ls st0 σ := by
  subst hp; exact xv_callIN hM B.2.2.2.2.2 w1 B.1 B.2.1 B.2.2.1 B.2.2.2.1 hn hdl B.2.2.2.2.1 hW hd hs0 hkc hks (Or.inl ⟨hst, hls⟩) (fun v σ' hq _ => by obtain ⟨rfl, rfl⟩ := hq; exact K) (fun _ _ hq => hq.elim)
theorem kx_vret {τ : xS} (hr0 : u.2.2.2.1 = none) (hd : decode u.2.1 pc = .ok (.return_, 1)) (h : σ = τ) : Ev l G u d (fun v σ' => v = none ∧ σ' = τ) Qx kc ks pc ls [] σ := xv_vret hr0 hd ⟨rfl, h⟩
theorem kt_of {y : MethodName} {cc : ByteArray} {nL : Nat} {vs : List Value} {τ : xS} (m : Nat) (hl : l.stackTraces = false) (hu : u = (y.cls, cc, nL, none, [], y.name)) (hy : plainName y.cls = true) (hlen : (lg_sl vs).length ≤ nL) (hls : xsl vs ++ List.replicate m none = ls)
    (h : Ev l G u d (fun v σ' => v = none ∧ σ' = τ) (fun _ _ => False) kc ks 0 ls [] σ) : Kt l G y cc nL d kc ks vs σ τ := by
  subst hu; subst hls
  exact xct_of hl hy hlen (xpad_get vs m) h
theorem kx_new {ci idx N : Nat} {C : String} {T : u_T} (hC : xCl ci C T N) (ty : Nat → FieldType) (hty : ∀ k, k < N → parseFieldDescriptor (T k).2.2.1 = some (ty k)) (hdef : ∀ j, j < N → defaultValue (ty j) = xdec id ((xft ci).getD j 9) 0 none)
    (w1 : Cond.classLink u.1 idx C ∈ xw) (w2 : Cond.instantiable C N ∈ xw) (w3 : Cond.initialized C ∈ xw) (hd : decode u.2.1 pc = .ok (.new idx, 3)) (hp : pc' = pc + 3) (hn : σ.1.1 + 1 < xSCR) (hkc : kc + 1 ≤ kc0) (hks : ks + N ≤ ks0)
    (hst : ∀ v ∈ st, xokv σ.1.1 v) (hls : ∀ v, some v ∈ ls → xokv σ.1.1 v) (K : Ev l G u d Qr Qx kc ks pc' ls (.ref σ.1.1 :: st) (xnew σ (.inl ci))) : Ev l G u d Qr Qx kc0 ks0 pc ls st σ := by
  subst hp; exact xv_new hC ty hty hdef w1 w2 w3 hd hn hkc hks hst hls K
theorem kx_aast {c n a b k ci N : Nat} {z : Int} {C : String} {T : u_T} (hc : σ.1.2.1 c = .inr (a, n)) (ha : 3 ≤ a) (ha2 : a < 10) (hC : xtyp a = .object C) (hCl : xCl ci C T N) (hbk : σ.1.2.1 b = .inl ci) (hz : z = (k : Int)) (hk : k < n) (hn : n ≤ 2147483648) (hd : decode u.2.1 pc = .ok (.aastore, 1)) (hp : pc' = pc + 1) (K : Ev l G u d Qr Qx kc ks pc' ls st (kRef c k b σ)) : Ev l G u d Qr Qx kc ks pc ls (.ref b :: iv z :: .ref c :: st) σ := by
  subst hp; exact xv_aast hc ha ha2 hC hCl hbk hz hk hn hd K
theorem kx_last {c n k : Nat} {z x : Int} (hc : σ.1.2.1 c = .inr (1, n)) (hz : z = (k : Int)) (hk : k < n) (hn : n ≤ 2147483648) (hd : decode u.2.1 pc = .ok (.lastore, 1)) (hp : pc' = pc + 1) (K : Ev l G u d Qr Qx kc ks pc' ls st (kPut c k x σ)) : Ev l G u d Qr Qx kc ks pc ls (jv x :: iv z :: .ref c :: st) σ := by
  subst hp; exact xv_last hc hz hk hn hd K
theorem kx_iconst {n : Int} (hd : decode u.2.1 pc = .ok (.iconst n, 1)) (hp : pc' = pc + 1) (K : Ev l G u d Qr Qx kc ks pc' ls (iv n :: st) σ) : Ev l G u d Qr Qx kc ks pc ls st σ := by
  subst hp; exact xv_iconst hd K
theorem kx_bipush {n : Int} (hd : decode u.2.1 pc = .ok (.bipush n, 2)) (hp : pc' = pc + 2) (hv : (Int8.ofInt n).toInt32 = Int32.ofInt n) (K : Ev l G u d Qr Qx kc ks pc' ls (iv n :: st) σ) : Ev l G u d Qr Qx kc ks pc ls st σ := by
  subst hp; exact xv_bipush hd hv K
theorem kx_sipush {n : Int} (hd : decode u.2.1 pc = .ok (.sipush n, 3)) (hp : pc' = pc + 3) (hv : (Int16.ofInt n).toInt32 = Int32.ofInt n) (K : Ev l G u d Qr Qx kc ks pc' ls (iv n :: st) σ) : Ev l G u d Qr Qx kc ks pc ls st σ := by
  subst hp; exact xv_sipush hd hv K
theorem kx_aload {j : Fin 4} {x : Nat} (hd : decode u.2.1 pc = .ok (.aload_n j, 1)) (hp : pc' = pc + 1) (hl : ls[(j : Nat)]? = some (some (.ref x))) (K : Ev l G u d Qr Qx kc ks pc' ls (.ref x :: st) σ) : Ev l G u d Qr Qx kc ks pc ls st σ := by
  subst hp; exact xv_aload_n hd hl K
theorem kx_iload {j : Fin 4} {x : Int} (hd : decode u.2.1 pc = .ok (.iload_n j, 1)) (hp : pc' = pc + 1) (hl : ls[(j : Nat)]? = some (some (iv x))) (K : Ev l G u d Qr Qx kc ks pc' ls (iv x :: st) σ) : Ev l G u d Qr Qx kc ks pc ls st σ := by
  subst hp; exact xv_iload_n hd hl K
theorem kx_istore {j : Fin 4} {x : Int} {ls2 : List (Option Value)} (hd : decode u.2.1 pc = .ok (.istore_n j, 1)) (hp : pc' = pc + 1) (hn : (j : Nat) < u.2.2.1) (hl : xs1 (j : Nat) (iv x) ls = ls2) (K : Ev l G u d Qr Qx kc ks pc' ls2 st σ) : Ev l G u d Qr Qx kc ks pc ls (iv x :: st) σ := by
  subst hp; exact xv_istore_n hd hn hl K
theorem kx_dup {a : Nat} (hd : decode u.2.1 pc = .ok (.dup, 1)) (hp : pc' = pc + 1) (K : Ev l G u d Qr Qx kc ks pc' ls (.ref a :: .ref a :: st) σ) : Ev l G u d Qr Qx kc ks pc ls (.ref a :: st) σ := by
  subst hp; exact xv_dup hd rfl K
theorem kx_obj {idx c : Nat} (w1 : Cond.methodLink u.1 idx Lib.objectInit ∈ xw) (w2 : Cond.instanceMethod Lib.objectInit ∈ xw) (w3 : Cond.code Lib.objectInit ⟨#[0xb1]⟩ 1 none ∈ xw) (hd : decode u.2.1 pc = .ok (.invokespecial idx, 3)) (hp : pc' = pc + 3) (hW : (st.map Value.category).sum ≤ 8) (K : Ev l G u d Qr Qx kc ks pc' ls st σ) : Ev l G u d Qr Qx kc ks pc ls (.ref c :: st) σ := by
  subst hp; exact xv_objInit w1 w2 w3 hd hW K
theorem kx_getR {ci c k c' idx N : Nat} {ref C : String} {T : u_T} (hC : xCl ci C T N) (hc : σ.1.2.1 c = .inl ci) (ht : (xft ci)[k]? = some 3) (hw : Cond.fieldLink u.1 idx ref (T k).2.1 (T k).2.2.1 ∈ xw) (href : ref = (T k).1) (hr0 : σ.1.2.2 c k = some c') (hd : decode u.2.1 pc = .ok (.getfield idx, 3)) (hp : pc' = pc + 3) (K : Ev l G u d Qr Qx kc ks pc' ls (.ref c' :: st) σ) : Ev l G u d Qr Qx kc ks pc ls (.ref c :: st) σ := by
  subst hp; exact xv_getR hC hc ht hw href hr0 hd K
theorem kx_alen {c n a : Nat} (hc : σ.1.2.1 c = .inr (a, n)) (ha2 : a < 10) (hd : decode u.2.1 pc = .ok (.arraylength, 1)) (hp : pc' = pc + 1) (K : Ev l G u d Qr Qx kc ks pc' ls (iv (n : Int) :: st) σ) : Ev l G u d Qr Qx kc ks pc ls (.ref c :: st) σ := by
  subst hp; exact xv_alen hc ha2 hd K
theorem kx_ldc2 {index : Nat} {v : Int64} {z : Int} (hw : Cond.constantLong u.1 index v ∈ xw) (hd : decode u.2.1 pc = .ok (.ldc2_w index, 3)) (hp : pc' = pc + 3) (hv : v = Int64.ofInt z) (K : Ev l G u d Qr Qx kc ks pc' ls (jv z :: st) σ) : Ev l G u d Qr Qx kc ks pc ls st σ := by
  subst hp; exact xv_ldc2 hw hd hv K
theorem kx_iadd {x y : Int} (hd : decode u.2.1 pc = .ok (.iadd, 1)) (hp : pc' = pc + 1) (K : Ev l G u d Qr Qx kc ks pc' ls (iv (x + y) :: st) σ) : Ev l G u d Qr Qx kc ks pc ls (iv y :: iv x :: st) σ := by
  subst hp; exact xv_iadd hd K
theorem kx_iinc {j : Nat} {n x : Int} {ls2 : List (Option Value)} (hd : decode u.2.1 pc = .ok (.iinc j n, 3)) (hp : pc' = pc + 3) (hj : ls[j]? = some (some (iv x))) (hn : j < u.2.2.1) (hl : xs1 j (iv (x + n)) ls = ls2) (K : Ev l G u d Qr Qx kc ks pc' ls2 st σ) : Ev l G u d Qr Qx kc ks pc ls st σ := by
  subst hp; exact xv_iinc hd hj hn hl K
theorem kx_goto {off : Int} {tgt : Nat} (hd : decode u.2.1 pc = .ok (.goto off, 3)) (ht : (pc : Int) + off = (tgt : Int)) (K : Ev l G u d Qr Qx kc ks tgt ls st σ) : Ev l G u d Qr Qx kc ks pc ls st σ := xv_goto hd ht K
theorem kx_ge {x y off : Int} {tgt : Nat} (hd : decode u.2.1 pc = .ok (.if_icmp .ge off, 3)) (hp : pc' = pc + 3) (ht : (pc : Int) + off = (tgt : Int)) (hx : R32 x) (hy : R32 y) (K1 : y ≤ x → Ev l G u d Qr Qx kc ks tgt ls st σ) (K2 : ¬ y ≤ x → Ev l G u d Qr Qx kc ks pc' ls st σ) : Ev l G u d Qr Qx kc ks pc ls (iv y :: iv x :: st) σ := by
  subst hp; exact xv_icmp_ge hd ht hx hy K1 K2
end XK
