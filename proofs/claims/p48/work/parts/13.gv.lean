/-! runs as functions of the numbers in the cells; the layout stands -/
abbrev R32 (x : Int) : Prop := -2147483648 ≤ x ∧ x < 2147483648
abbrev R64 (x : Int) : Prop := -9223372036854775808 ≤ x ∧ x < 9223372036854775808
abbrev B01 (x : Int) : Prop := x = 0 ∨ x = 1
abbrev RD (x : Int) : Prop := 0 ≤ x ∧ x < 18446744073709551616
theorem B01.r {x : Int} (h : B01 x) : R32 x := by rcases h with rfl | rfl <;> decide
theorem R32.j {x : Int} (h : R32 x) : R64 x := ⟨by omega, by omega⟩
theorem w32_r (x : Int) : R32 (w32 x) := ⟨Int32.le_toInt _, Int32.toInt_lt _⟩
theorem w64_r (x : Int) : R64 (w64 x) := ⟨Int64.le_toInt _, Int64.toInt_lt _⟩
theorem iv_w32 (x : Int) : iv (w32 x) = iv x := congrArg Value.int (Int32.ofInt_toInt _)
theorem jv_w64 (x : Int) : jv (w64 x) = jv x := congrArg Value.long (Int64.ofInt_toInt _)
theorem w32_id {x : Int} (h : R32 x) : w32 x = x := w32_of h.1 h.2
theorem w64_id {x : Int} (h : R64 x) : w64 x = x := w64_of h.1 h.2
theorem xand_b {x y : Int} (hx : B01 x) (hy : B01 y) : B01 ((Int32.ofInt x &&& Int32.ofInt y).toInt) := by rcases hx with rfl | rfl <;> rcases hy with rfl | rfl <;> decide
theorem xor32_b {x y : Int} (hx : B01 x) (hy : B01 y) : B01 ((Int32.ofInt x ||| Int32.ofInt y).toInt) := by rcases hx with rfl | rfl <;> rcases hy with rfl | rfl <;> decide
theorem xxor_b {x y : Int} (hx : B01 x) (hy : B01 y) : B01 ((Int32.ofInt x ^^^ Int32.ofInt y).toInt) := by rcases hx with rfl | rfl <;> rcases hy with rfl | rfl <;> decide
abbrev xO : Type := Option ((Int ⊕ Nat) × xM)
def xN : Nat := 1000000
def xix (z : Int) (n : Nat) (F : xO) : xO := if 0 ≤ z ∧ z < (n : Int) then F else none
def xnz (y : Int) (F : xO) : xO := if 0 < y then F else none
def xput (c k : Nat) (v : Int) (M : xM) (K : xM → xO) : xO := K (xup M c k v)
def xlet (v : Int) (K : Int → xO) : xO := K v
def xbc (r : xO) (k : Int → xM → xO) (kx : Nat → xM → xO) : xO := match r with
  | some (.inl z, M) => k z M
  | some (.inr e, M) => kx e M
  | none => none
def xb (r : xO) (k : Int → xM → xO) : xO := xbc r k (fun e M => some (.inr e, M))
def xcs (e : Nat) (a b c : xO) : xO := match e with
  | 0 => a
  | 1 => b
  | _ => c
def xcopy (c0 n0 c1 n1 : Nat) (z : Int) (M : xM) (K : xM → xO) : xO := if 0 ≤ z ∧ z ≤ (n0 : Int) ∧ z ≤ (n1 : Int) ∧ z < 2147483648 then K (xcpy M c0 c1 z.toNat) else none
def xret (z : Int) (M : xM) : xO := some (.inl z, M)
def xthr (e : Nat) (M : xM) : xO := some (.inr e, M)
def xand (x y : Int) : Int := (Int32.ofInt x &&& Int32.ofInt y).toInt
def xor32 (x y : Int) : Int := (Int32.ofInt x ||| Int32.ofInt y).toInt
def xxor (x y : Int) : Int := (Int32.ofInt x ^^^ Int32.ofInt y).toInt
def xshl (x y : Int) : Int := (Int32.ofInt x <<< (Int32.ofInt y &&& 31)).toInt
def xshr (x y : Int) : Int := (Int32.ofInt x >>> (Int32.ofInt y &&& 31)).toInt
theorem xand_r (x y : Int) : R32 (xand x y) := ⟨Int32.le_toInt _, Int32.toInt_lt _⟩
theorem xor32_r (x y : Int) : R32 (xor32 x y) := ⟨Int32.le_toInt _, Int32.toInt_lt _⟩
theorem xxor_r (x y : Int) : R32 (xxor x y) := ⟨Int32.le_toInt _, Int32.toInt_lt _⟩
theorem xshl_r (x y : Int) : R32 (xshl x y) := ⟨Int32.le_toInt _, Int32.toInt_lt _⟩
theorem xshr_r (x y : Int) : R32 (xshr x y) := ⟨Int32.le_toInt _, Int32.toInt_lt _⟩
theorem iv_toInt (x : Int32) : iv x.toInt = .int x := congrArg Value.int (Int32.ofInt_toInt _)
theorem xtd_r {x y : Int} (hx : R64 x) (hy : 0 < y) : R64 (x.tdiv y) := by
  have h1 : (x.tdiv y).natAbs ≤ x.natAbs := by
    rw [Int.natAbs_tdiv]; exact Nat.div_le_self _ _
  by_cases q : x = -9223372036854775808
  · subst q
    have h3 : 0 ≤ (9223372036854775808 : Int).tdiv y := Int.tdiv_nonneg (by decide) (by omega)
    have h2 : (-9223372036854775808 : Int).tdiv y = -((9223372036854775808 : Int).tdiv y) := Int.neg_tdiv _ _
    omega
  · omega
def xcank (t : Nat ⊕ (Nat × Nat)) (k : Nat) (v : Int) : Prop := match t with
  | .inl ci => (match (xft ci)[k]? with
    | some 0 => R32 v
    | some 1 => B01 v
    | some 2 => R64 v
    | _ => True)
  | .inr (0, _) => R32 v
  | .inr (1, _) => R64 v
  | .inr (2, _) => RD v
  | _ => True
/-- every number is one that its place can hold -/
def xcan (M : xM) : Prop := ∀ c k, xcank (xLty c) k (M c k)
theorem xcan.I {M : xM} (h : xcan M) {ci c k : Nat} (ho : xOb ci c) (ht : (xft ci)[k]? = some 0) : R32 (M c k) := by
  have := h c k
  rw [show xLty c = .inl ci from ho] at this
  simp only [xcank, ht] at this
  exact this
theorem xcan.Z {M : xM} (h : xcan M) {ci c k : Nat} (ho : xOb ci c) (ht : (xft ci)[k]? = some 1) : B01 (M c k) := by
  have := h c k
  rw [show xLty c = .inl ci from ho] at this
  simp only [xcank, ht] at this
  exact this
theorem xcan.J {M : xM} (h : xcan M) {ci c k : Nat} (ho : xOb ci c) (ht : (xft ci)[k]? = some 2) : R64 (M c k) := by
  have := h c k
  rw [show xLty c = .inl ci from ho] at this
  simp only [xcank, ht] at this
  exact this
theorem xcan.ai {M : xM} (h : xcan M) {n c k : Nat} (ho : xAn 0 n c) : R32 (M c k) := by
  have := h c k
  rw [show xLty c = .inr (0, n) from ho] at this
  exact this
theorem xcan.aj {M : xM} (h : xcan M) {n c k : Nat} (ho : xAn 1 n c) : R64 (M c k) := by
  have := h c k
  rw [show xLty c = .inr (1, n) from ho] at this
  exact this
theorem xcan.ad {M : xM} (h : xcan M) {n c k : Nat} (ho : xAn 2 n c) : RD (M c k) := by
  have := h c k
  rw [show xLty c = .inr (2, n) from ho] at this
  exact this
theorem xcan.put {M : xM} (h : xcan M) {c k : Nat} {v : Int} (hv : xcank (xLty c) k v) : xcan (xup M c k v) := by
  intro a b
  by_cases q : a = c ∧ b = k
  · obtain ⟨rfl, rfl⟩ := q; rw [xup_same]; exact hv
  · rw [xup_ne q]; exact h a b
theorem xcan.putI {M : xM} (h : xcan M) {ci c k : Nat} {v : Int} (ho : xOb ci c) (ht : (xft ci)[k]? = some 0) (hv : R32 v) : xcan (xup M c k v) := h.put (by rw [show xLty c = .inl ci from ho]; simp only [xcank, ht]; exact hv)
theorem xcan.putZ {M : xM} (h : xcan M) {ci c k : Nat} {v : Int} (ho : xOb ci c) (ht : (xft ci)[k]? = some 1) (hv : B01 v) : xcan (xup M c k v) := h.put (by rw [show xLty c = .inl ci from ho]; simp only [xcank, ht]; exact hv)
theorem xcan.putJ {M : xM} (h : xcan M) {ci c k : Nat} {v : Int} (ho : xOb ci c) (ht : (xft ci)[k]? = some 2) (hv : R64 v) : xcan (xup M c k v) := h.put (by rw [show xLty c = .inl ci from ho]; simp only [xcank, ht]; exact hv)
theorem xcan.pai {M : xM} (h : xcan M) {n c k : Nat} {v : Int} (ho : xAn 0 n c) (hv : R32 v) : xcan (xup M c k v) := h.put (by rw [show xLty c = .inr (0, n) from ho]; exact hv)
theorem xcan.paj {M : xM} (h : xcan M) {n c k : Nat} {v : Int} (ho : xAn 1 n c) (hv : R64 v) : xcan (xup M c k v) := h.put (by rw [show xLty c = .inr (1, n) from ho]; exact hv)
theorem xcan.cpy {M : xM} (h : xcan M) {n0 n1 c0 c1 k : Nat} (h0 : xAn 1 n0 c0) (h1 : xAn 1 n1 c1) : xcan (xcpy M c0 c1 k) := by
  intro a b
  unfold xcpy
  by_cases q : a = c1 ∧ b < k
  · rw [if_pos q, q.1, show xLty c1 = .inr (1, n1) from h1]; exact h.aj h0
  · rw [if_neg q]; exact h a b
theorem xrm_r {x y : Int} (hy : 0 < y ∧ y < 9223372036854775808) : R64 (x - x.tdiv y * y) := by
  have e : x - x.tdiv y * y = x.tmod y := by rw [Int.tmod_def, Int.mul_comm]
  have h1 : (x.tmod y).natAbs < y.natAbs := by
    rw [Int.natAbs_tmod]; exact Nat.mod_lt _ (by omega)
  rw [e]; omega
/-- what comes back: 0 int, 1 boolean, 2 long, 3 nothing, 4 double, 10 + k an object of the class k -/
def xvo (t : Nat) (z : Int) : Option Value := match t with
  | 5 => some (iv z)
  | 0 => some (iv z)
  | 1 => some (iv z)
  | 2 => some (jv z)
  | 3 => none
  | 4 => some (.double (UInt64.ofNat z.toNat))
  | _ => some (.ref z.toNat)
def xRt (t : Nat) (z : Int) : Prop := match t with
  | 5 => B01 z
  | 6 => True
  | 0 => R32 z
  | 1 => B01 z
  | 2 => R64 z
  | 3 => True
  | 4 => RD z
  | t => xOb (t - 10) z.toNat
def xQr (G : xG) (t : Nat) (r : (Int ⊕ Nat) × xM) : Option Value → xS → Prop := fun v σ => ∃ z, r.1 = .inl z ∧ v = xvo t z ∧ xRt t z ∧ (t = 5 ∨ (σ = (xLG G, r.2) ∧ xcan r.2))
def xQx (G : xG) (t : Nat) (r : (Int ⊕ Nat) × xM) : Nat → xS → Prop := fun k σ => r.1 = .inr k ∧ (t = 5 ∨ (σ = (xLG G, r.2) ∧ xcan r.2))
/-- from here the method ends as F says; t = 5: the law, which leaves the layout open -/
def Gv (l : Launch) (G : xG) (u : xU) (d t kc ks pc : Nat) (ls : List (Option Value)) (st : List Value) (M : xM) (F : xO) : Prop := ∀ r, F = some r → Ev l G u d (xQr G t r) (xQx G t r) kc ks pc ls st (xLG G, M)
def Gx (l : Launch) (G : xG) (u : xU) (d t kc ks pc : Nat) (ls : List (Option Value)) (st : List Value) (M : xM) (k : Nat) (F : xO) : Prop := ∀ r, F = some r → Xv l G u d (xQr G t r) (xQx G t r) kc ks pc ls st (xLG G, M) k
/-- the method at these arguments ends as F says -/
def Cm (l : Launch) (G : xG) (y : MethodName) (cc : ByteArray) (nL : Nat) (ret : Option FieldType) (d t kc ks : Nat) (vs : List Value) (M : xM) (F : xO) : Prop := ∀ r, F = some r → Ct l G y cc nL ret d (xQr G t r) (xQx G t r) kc ks vs (xLG G, M)
def CmW (l : Launch) (G : xG) (y : MethodName) (cc : ByteArray) (nL : Nat) (ret : Option FieldType) (hh : List (Nat × Nat × Nat × Nat)) (d t kc ks : Nat) (vs : List Value) (M : xM) (F : xO) : Prop := ∀ r, F = some r → CtW l G y cc nL ret hh d (xQr G t r) (xQx G t r) kc ks vs (xLG G, M)
def xYV (y : MethodName) (cc : ByteArray) (nL : Nat) (ret : Option FieldType) (n : Nat) : Prop := Cond.instanceMethod y ∈ xw ∧ Cond.selects y.cls y y ∈ xw ∧ Cond.initialized y.cls ∈ xw ∧ Cond.code y cc nL ret ∈ xw ∧ (y.cls ≠ "java/lang/invoke/MethodHandle" ∧ y.cls ≠ "java/lang/invoke/VarHandle" ∧ (parseMethodDescriptor y.desc).map (fun d => d.parameters.length) = some n) ∧ nL ≤ 41
def xYS (y : MethodName) (cc : ByteArray) (nL : Nat) (ret : Option FieldType) (n : Nat) : Prop := Cond.static y ∈ xw ∧ Cond.initialized y.cls ∈ xw ∧ Cond.code y cc nL ret ∈ xw ∧ (y.cls ≠ "java/lang/invoke/MethodHandle" ∧ y.cls ≠ "java/lang/invoke/VarHandle" ∧ (parseMethodDescriptor y.desc).map (fun d => d.parameters.length) = some n) ∧ nL ≤ 41
def xYW (y : MethodName) (cc : ByteArray) (nL : Nat) (ret : Option FieldType) (hh : List (Nat × Nat × Nat × Nat)) (n : Nat) : Prop := Cond.static y ∈ xw ∧ Cond.initialized y.cls ∈ xw ∧ Cond.codeWith y cc nL ret hh ∈ xw ∧ (y.cls ≠ "java/lang/invoke/MethodHandle" ∧ y.cls ≠ "java/lang/invoke/VarHandle" ∧ (parseMethodDescriptor y.desc).map (fun d => d.parameters.length) = some n) ∧ nL ≤ 41
/-- fewer locals known -/
def xsb : List (Option Value) → List (Option Value) → Prop
  | [], _ => True
  | none :: r, [] => xsb r []
  | none :: r, _ :: q => xsb r q
  | some _ :: _, [] => False
  | some v :: r, w :: q => w = some v ∧ xsb r q
theorem xsb_get : ∀ (a b : List (Option Value)), xsb a b → ∀ (i : Nat) (v : Value), a[i]? = some (some v) → b[i]? = some (some v)
  | [], _, _, i, v, h => by simp at h
  | none :: r, [], hs, i, v, h => by
    cases i with
    | zero => simp at h
    | succ i => have := xsb_get r [] hs i v (by simpa using h); simp at this
  | none :: r, w :: q, hs, i, v, h => by
    cases i with
    | zero => simp at h
    | succ i => have := xsb_get r q hs i v (by simpa using h); simpa using this
  | some _ :: _, [], hs, _, _, _ => hs.elim
  | some x :: r, w :: q, hs, i, v, h => by
    cases i with
    | zero => simp at h; subst h; simp [hs.1]
    | succ i => have := xsb_get r q hs.2 i v (by simpa using h); simpa using this
section XGV
variable {l : Launch} {G : xG} {u : xU} {d t kc ks kc0 ks0 pc pc' : Nat} {ls : List (Option Value)} {st : List Value} {M : xM} {F : xO}
theorem xg_none : Gv l G u d t kc ks pc ls st M none := fun _ h => by cases h
theorem xg_sub {ls' : List (Option Value)} (K : Gv l G u d t kc ks pc ls' st M F) (h : xsb ls' ls) : Gv l G u d t kc ks pc ls st M F := fun r hr => xv_sub (xsb_get _ _ h) (K r hr)
theorem xg_room {kc' ks' : Nat} (K : Gv l G u d t kc' ks' pc ls st M F) (h1 : kc' ≤ kc) (h2 : ks' ≤ ks) : Gv l G u d t kc ks pc ls st M F := fun r hr => xv_room h1 h2 (K r hr)
theorem xg_jump {ls' : List (Option Value)} {kc' ks' : Nat} (K : Gv l G u d t kc' ks' pc ls' st M F) (h : xsb ls' ls) (h1 : kc' ≤ kc) (h2 : ks' ≤ ks) : Gv l G u d t kc ks pc ls st M F := xg_room (xg_sub K h) h1 h2
theorem xg_let {v : Int} {k : Int → xO} (q : Prop) (hq : q) (K : q → Gv l G u d t kc ks pc ls st M (k v)) : Gv l G u d t kc ks pc ls st M (xlet v k) := K hq
theorem xg_iconst {n : Int} (hd : decode u.2.1 pc = .ok (.iconst n, 1)) (hp : pc' = pc + 1) (K : Gv l G u d t kc ks pc' ls (iv n :: st) M F) : Gv l G u d t kc ks pc ls st M F := by
  subst hp; exact fun r h => xv_iconst hd (K r h)
theorem xg_bipush {n : Int} (hd : decode u.2.1 pc = .ok (.bipush n, 2)) (hp : pc' = pc + 2) (hv : (Int8.ofInt n).toInt32 = Int32.ofInt n) (K : Gv l G u d t kc ks pc' ls (iv n :: st) M F) : Gv l G u d t kc ks pc ls st M F := by
  subst hp; exact fun r h => xv_bipush hd hv (K r h)
theorem xg_sipush {n : Int} (hd : decode u.2.1 pc = .ok (.sipush n, 3)) (hp : pc' = pc + 3) (hv : (Int16.ofInt n).toInt32 = Int32.ofInt n) (K : Gv l G u d t kc ks pc' ls (iv n :: st) M F) : Gv l G u d t kc ks pc ls st M F := by
  subst hp; exact fun r h => xv_sipush hd hv (K r h)
theorem xg_lconst {n : Fin 2} {z : Int} (hd : decode u.2.1 pc = .ok (.lconst n, 1)) (hp : pc' = pc + 1) (hv : Int64.ofNat (n : Nat) = Int64.ofInt z) (K : Gv l G u d t kc ks pc' ls (jv z :: st) M F) : Gv l G u d t kc ks pc ls st M F := by
  subst hp; exact fun r h => xv_lconst hd hv (K r h)
theorem xg_ldc {index : Nat} {v : Int32} {z : Int} (hw : Cond.constant u.1 index v ∈ xw) (hd : decode u.2.1 pc = .ok (.ldc index, 2)) (hp : pc' = pc + 2) (hv : v = Int32.ofInt z) (K : Gv l G u d t kc ks pc' ls (iv z :: st) M F) : Gv l G u d t kc ks pc ls st M F := by
  subst hp; exact fun r h => xv_ldc hw hd hv (K r h)
theorem xg_ldcw {index : Nat} {v : Int32} {z : Int} (hw : Cond.constant u.1 index v ∈ xw) (hd : decode u.2.1 pc = .ok (.ldc_w index, 3)) (hp : pc' = pc + 3) (hv : v = Int32.ofInt z) (K : Gv l G u d t kc ks pc' ls (iv z :: st) M F) : Gv l G u d t kc ks pc ls st M F := by
  subst hp; exact fun r h => xv_ldcw hw hd hv (K r h)
theorem xg_ldc2 {index : Nat} {v : Int64} {z : Int} (hw : Cond.constantLong u.1 index v ∈ xw) (hd : decode u.2.1 pc = .ok (.ldc2_w index, 3)) (hp : pc' = pc + 3) (hv : v = Int64.ofInt z) (K : Gv l G u d t kc ks pc' ls (jv z :: st) M F) : Gv l G u d t kc ks pc ls st M F := by
  subst hp; exact fun r h => xv_ldc2 hw hd hv (K r h)
theorem xg_iload_n {j : Fin 4} {x : Int} (hd : decode u.2.1 pc = .ok (.iload_n j, 1)) (hp : pc' = pc + 1) (hl : ls[(j : Nat)]? = some (some (iv x))) (K : Gv l G u d t kc ks pc' ls ((iv x) :: st) M F) : Gv l G u d t kc ks pc ls st M F := by
  subst hp; exact fun r h => xv_iload_n hd hl (K r h)
theorem xg_iload {j : Nat} {x : Int} (hd : decode u.2.1 pc = .ok (.iload j, 2)) (hp : pc' = pc + 2) (hl : ls[j]? = some (some (iv x))) (K : Gv l G u d t kc ks pc' ls ((iv x) :: st) M F) : Gv l G u d t kc ks pc ls st M F := by
  subst hp; exact fun r h => xv_iload hd hl (K r h)
theorem xg_lload_n {j : Fin 4} {x : Int} (hd : decode u.2.1 pc = .ok (.lload_n j, 1)) (hp : pc' = pc + 1) (hl : ls[(j : Nat)]? = some (some (jv x))) (K : Gv l G u d t kc ks pc' ls ((jv x) :: st) M F) : Gv l G u d t kc ks pc ls st M F := by
  subst hp; exact fun r h => xv_lload_n hd hl (K r h)
theorem xg_lload {j : Nat} {x : Int} (hd : decode u.2.1 pc = .ok (.lload j, 2)) (hp : pc' = pc + 2) (hl : ls[j]? = some (some (jv x))) (K : Gv l G u d t kc ks pc' ls ((jv x) :: st) M F) : Gv l G u d t kc ks pc ls st M F := by
  subst hp; exact fun r h => xv_lload hd hl (K r h)
theorem xg_aload_n {j : Fin 4} {x : Nat} (hd : decode u.2.1 pc = .ok (.aload_n j, 1)) (hp : pc' = pc + 1) (hl : ls[(j : Nat)]? = some (some (.ref x))) (K : Gv l G u d t kc ks pc' ls ((.ref x) :: st) M F) : Gv l G u d t kc ks pc ls st M F := by
  subst hp; exact fun r h => xv_aload_n hd hl (K r h)
theorem xg_aload {j : Nat} {x : Nat} (hd : decode u.2.1 pc = .ok (.aload j, 2)) (hp : pc' = pc + 2) (hl : ls[j]? = some (some (.ref x))) (K : Gv l G u d t kc ks pc' ls ((.ref x) :: st) M F) : Gv l G u d t kc ks pc ls st M F := by
  subst hp; exact fun r h => xv_aload hd hl (K r h)
theorem xg_istore_n {j : Fin 4} {x : Int} {ls2 : List (Option Value)} (hd : decode u.2.1 pc = .ok (.istore_n j, 1)) (hp : pc' = pc + 1) (hn : (j : Nat) < u.2.2.1) (hl : xs1 (j : Nat) (iv x) ls = ls2) (K : Gv l G u d t kc ks pc' ls2 st M F) : Gv l G u d t kc ks pc ls ((iv x) :: st) M F := by
  subst hp; exact fun r h => xv_istore_n hd hn hl (K r h)
theorem xg_istore {j : Nat} {x : Int} {ls2 : List (Option Value)} (hd : decode u.2.1 pc = .ok (.istore j, 2)) (hp : pc' = pc + 2) (hn : j < u.2.2.1) (hl : xs1 j (iv x) ls = ls2) (K : Gv l G u d t kc ks pc' ls2 st M F) : Gv l G u d t kc ks pc ls ((iv x) :: st) M F := by
  subst hp; exact fun r h => xv_istore hd hn hl (K r h)
theorem xg_lstore_n {j : Fin 4} {x : Int} {ls2 : List (Option Value)} (hd : decode u.2.1 pc = .ok (.lstore_n j, 1)) (hp : pc' = pc + 1) (hn : (j : Nat) + 1 < u.2.2.1) (hl : xs2 (j : Nat) (jv x) ls = ls2) (K : Gv l G u d t kc ks pc' ls2 st M F) : Gv l G u d t kc ks pc ls ((jv x) :: st) M F := by
  subst hp; exact fun r h => xv_lstore_n hd hn hl (K r h)
theorem xg_lstore {j : Nat} {x : Int} {ls2 : List (Option Value)} (hd : decode u.2.1 pc = .ok (.lstore j, 2)) (hp : pc' = pc + 2) (hn : j + 1 < u.2.2.1) (hl : xs2 j (jv x) ls = ls2) (K : Gv l G u d t kc ks pc' ls2 st M F) : Gv l G u d t kc ks pc ls ((jv x) :: st) M F := by
  subst hp; exact fun r h => xv_lstore hd hn hl (K r h)
theorem xg_astore_n {j : Fin 4} {x : Nat} {ls2 : List (Option Value)} (hd : decode u.2.1 pc = .ok (.astore_n j, 1)) (hp : pc' = pc + 1) (hn : (j : Nat) < u.2.2.1) (hl : xs1 (j : Nat) (.ref x) ls = ls2) (K : Gv l G u d t kc ks pc' ls2 st M F) : Gv l G u d t kc ks pc ls ((.ref x) :: st) M F := by
  subst hp; exact fun r h => xv_astore_n hd hn hl (K r h)
theorem xg_astore {j : Nat} {x : Nat} {ls2 : List (Option Value)} (hd : decode u.2.1 pc = .ok (.astore j, 2)) (hp : pc' = pc + 2) (hn : j < u.2.2.1) (hl : xs1 j (.ref x) ls = ls2) (K : Gv l G u d t kc ks pc' ls2 st M F) : Gv l G u d t kc ks pc ls ((.ref x) :: st) M F := by
  subst hp; exact fun r h => xv_astore hd hn hl (K r h)
theorem xg_iinc {j : Nat} {n x : Int} {ls2 : List (Option Value)} (hd : decode u.2.1 pc = .ok (.iinc j n, 3)) (hp : pc' = pc + 3) (hj : ls[j]? = some (some (iv x))) (hn : j < u.2.2.1) (hl : xs1 j (iv (w32 (x + n))) ls = ls2) (K : Gv l G u d t kc ks pc' ls2 st M F) : Gv l G u d t kc ks pc ls st M F := by
  subst hp; exact fun r h => xv_iinc hd hj hn (by rw [← iv_w32]; exact hl) (K r h)
theorem xg_istore_nL {j : Fin 4} {v : Int} {ls2 : Int → List (Option Value)} {k9 : Int → xO} {P : Int → Prop} (hd : decode u.2.1 pc = .ok (.istore_n j, 1)) (hp : pc' = pc + 1) (hn : (j : Nat) < u.2.2.1) (hP : P v) (hl : ∀ x, xs1 (j : Nat) (iv x) ls = ls2 x) (K : ∀ x, P x → Gv l G u d t kc ks pc' (ls2 x) st M (k9 x)) : Gv l G u d t kc ks pc ls ((iv v) :: st) M (xlet v k9) := by
  subst hp; exact fun r h => xv_istore_n hd hn (hl v) (K v hP r h)
theorem xg_istoreL {j : Nat} {v : Int} {ls2 : Int → List (Option Value)} {k9 : Int → xO} {P : Int → Prop} (hd : decode u.2.1 pc = .ok (.istore j, 2)) (hp : pc' = pc + 2) (hn : j < u.2.2.1) (hP : P v) (hl : ∀ x, xs1 j (iv x) ls = ls2 x) (K : ∀ x, P x → Gv l G u d t kc ks pc' (ls2 x) st M (k9 x)) : Gv l G u d t kc ks pc ls ((iv v) :: st) M (xlet v k9) := by
  subst hp; exact fun r h => xv_istore hd hn (hl v) (K v hP r h)
theorem xg_lstore_nL {j : Fin 4} {v : Int} {ls2 : Int → List (Option Value)} {k9 : Int → xO} {P : Int → Prop} (hd : decode u.2.1 pc = .ok (.lstore_n j, 1)) (hp : pc' = pc + 1) (hn : (j : Nat) + 1 < u.2.2.1) (hP : P v) (hl : ∀ x, xs2 (j : Nat) (jv x) ls = ls2 x) (K : ∀ x, P x → Gv l G u d t kc ks pc' (ls2 x) st M (k9 x)) : Gv l G u d t kc ks pc ls ((jv v) :: st) M (xlet v k9) := by
  subst hp; exact fun r h => xv_lstore_n hd hn (hl v) (K v hP r h)
theorem xg_lstoreL {j : Nat} {v : Int} {ls2 : Int → List (Option Value)} {k9 : Int → xO} {P : Int → Prop} (hd : decode u.2.1 pc = .ok (.lstore j, 2)) (hp : pc' = pc + 2) (hn : j + 1 < u.2.2.1) (hP : P v) (hl : ∀ x, xs2 j (jv x) ls = ls2 x) (K : ∀ x, P x → Gv l G u d t kc ks pc' (ls2 x) st M (k9 x)) : Gv l G u d t kc ks pc ls ((jv v) :: st) M (xlet v k9) := by
  subst hp; exact fun r h => xv_lstore hd hn (hl v) (K v hP r h)
theorem xg_iadd {x y : Int} (hd : decode u.2.1 pc = .ok (.iadd, 1)) (hp : pc' = pc + 1) (K : Gv l G u d t kc ks pc' ls (iv (w32 (x + y)) :: st) M F) : Gv l G u d t kc ks pc ls (iv y :: iv x :: st) M F := by
  subst hp; exact fun r h => xv_iadd hd (by rw [← iv_w32]; exact K r h)
theorem xg_isub {x y : Int} (hd : decode u.2.1 pc = .ok (.isub, 1)) (hp : pc' = pc + 1) (K : Gv l G u d t kc ks pc' ls (iv (w32 (x - y)) :: st) M F) : Gv l G u d t kc ks pc ls (iv y :: iv x :: st) M F := by
  subst hp; exact fun r h => xv_isub hd (by rw [← iv_w32]; exact K r h)
theorem xg_imul {x y : Int} (hd : decode u.2.1 pc = .ok (.imul, 1)) (hp : pc' = pc + 1) (K : Gv l G u d t kc ks pc' ls (iv (w32 (x * y)) :: st) M F) : Gv l G u d t kc ks pc ls (iv y :: iv x :: st) M F := by
  subst hp; exact fun r h => xv_imul hd (by rw [← iv_w32]; exact K r h)
theorem xg_ladd {x y : Int} (hd : decode u.2.1 pc = .ok (.ladd, 1)) (hp : pc' = pc + 1) (K : Gv l G u d t kc ks pc' ls (jv (w64 (x + y)) :: st) M F) : Gv l G u d t kc ks pc ls (jv y :: jv x :: st) M F := by
  subst hp; exact fun r h => xv_ladd hd (by rw [← jv_w64]; exact K r h)
theorem xg_lsub {x y : Int} (hd : decode u.2.1 pc = .ok (.lsub, 1)) (hp : pc' = pc + 1) (K : Gv l G u d t kc ks pc' ls (jv (w64 (x - y)) :: st) M F) : Gv l G u d t kc ks pc ls (jv y :: jv x :: st) M F := by
  subst hp; exact fun r h => xv_lsub hd (by rw [← jv_w64]; exact K r h)
theorem xg_lmul {x y : Int} (hd : decode u.2.1 pc = .ok (.lmul, 1)) (hp : pc' = pc + 1) (K : Gv l G u d t kc ks pc' ls (jv (w64 (x * y)) :: st) M F) : Gv l G u d t kc ks pc ls (jv y :: jv x :: st) M F := by
  subst hp; exact fun r h => xv_lmul hd (by rw [← jv_w64]; exact K r h)
theorem xg_ineg {x : Int} (hd : decode u.2.1 pc = .ok (.ineg, 1)) (hp : pc' = pc + 1) (K : Gv l G u d t kc ks pc' ls (iv (w32 (-x)) :: st) M F) : Gv l G u d t kc ks pc ls (iv x :: st) M F := by
  subst hp; exact fun r h => xv_ineg hd (by rw [← iv_w32]; exact K r h)
theorem xg_lneg {x : Int} (hd : decode u.2.1 pc = .ok (.lneg, 1)) (hp : pc' = pc + 1) (K : Gv l G u d t kc ks pc' ls (jv (w64 (-x)) :: st) M F) : Gv l G u d t kc ks pc ls (jv x :: st) M F := by
  subst hp; exact fun r h => xv_lneg hd (by rw [← jv_w64]; exact K r h)
theorem xg_iand {x y : Int} (hd : decode u.2.1 pc = .ok (.iand, 1)) (hp : pc' = pc + 1) (K : Gv l G u d t kc ks pc' ls (iv (xand x y) :: st) M F) : Gv l G u d t kc ks pc ls (iv y :: iv x :: st) M F := by
  subst hp; exact fun r h => xv_iand0 hd (by rw [← iv_toInt]; exact K r h)
theorem xg_ior {x y : Int} (hd : decode u.2.1 pc = .ok (.ior, 1)) (hp : pc' = pc + 1) (K : Gv l G u d t kc ks pc' ls (iv (xor32 x y) :: st) M F) : Gv l G u d t kc ks pc ls (iv y :: iv x :: st) M F := by
  subst hp; exact fun r h => xv_ior0 hd (by rw [← iv_toInt]; exact K r h)
theorem xg_ixor {x y : Int} (hd : decode u.2.1 pc = .ok (.ixor, 1)) (hp : pc' = pc + 1) (K : Gv l G u d t kc ks pc' ls (iv (xxor x y) :: st) M F) : Gv l G u d t kc ks pc ls (iv y :: iv x :: st) M F := by
  subst hp; exact fun r h => xv_ixor0 hd (by rw [← iv_toInt]; exact K r h)
theorem xg_ishl {x y : Int} (hd : decode u.2.1 pc = .ok (.ishl, 1)) (hp : pc' = pc + 1) (K : Gv l G u d t kc ks pc' ls (iv (xshl x y) :: st) M F) : Gv l G u d t kc ks pc ls (iv y :: iv x :: st) M F := by
  subst hp; exact fun r h => xv_ishl0 hd (by rw [← iv_toInt]; exact K r h)
theorem xg_ishr {x y : Int} (hd : decode u.2.1 pc = .ok (.ishr, 1)) (hp : pc' = pc + 1) (K : Gv l G u d t kc ks pc' ls (iv (xshr x y) :: st) M F) : Gv l G u d t kc ks pc ls (iv y :: iv x :: st) M F := by
  subst hp; exact fun r h => xv_ishr0 hd (by rw [← iv_toInt]; exact K r h)
theorem xg_i2l {x : Int} (hd : decode u.2.1 pc = .ok (.i2l, 1)) (hp : pc' = pc + 1) (hx : R32 x) (K : Gv l G u d t kc ks pc' ls (jv x :: st) M F) : Gv l G u d t kc ks pc ls (iv x :: st) M F := by
  subst hp; exact fun r h => xv_i2lr hd hx (K r h)
theorem xg_l2i {x : Int} (hd : decode u.2.1 pc = .ok (.l2i, 1)) (hp : pc' = pc + 1) (K : Gv l G u d t kc ks pc' ls (iv (w32 x) :: st) M F) : Gv l G u d t kc ks pc ls (jv x :: st) M F := by
  subst hp; exact fun r h => xv_l2i hd (by rw [← iv_w32]; exact K r h)
theorem xg_ldivk {x y : Int} (hd : decode u.2.1 pc = .ok (.ldiv, 1)) (hp : pc' = pc + 1) (hx : R64 x) (hy : 0 < y ∧ y < 9223372036854775808) (K : Gv l G u d t kc ks pc' ls (jv (x.tdiv y) :: st) M F) : Gv l G u d t kc ks pc ls (jv y :: jv x :: st) M F := by
  subst hp; exact fun r h => xv_ldiv hd hx hy (K r h)
theorem xg_lremk {x y : Int} (hd : decode u.2.1 pc = .ok (.lrem, 1)) (hp : pc' = pc + 1) (hx : R64 x) (hy : 0 < y ∧ y < 9223372036854775808) (K : Gv l G u d t kc ks pc' ls (jv (x - x.tdiv y * y) :: st) M F) : Gv l G u d t kc ks pc ls (jv y :: jv x :: st) M F := by
  subst hp; exact fun r h => xv_lrem hd hx hy (K r h)
theorem xg_ldiv {x y : Int} (hd : decode u.2.1 pc = .ok (.ldiv, 1)) (hp : pc' = pc + 1) (hx : R64 x) (hy : R64 y) (K : 0 < y → Gv l G u d t kc ks pc' ls (jv (x.tdiv y) :: st) M F) : Gv l G u d t kc ks pc ls (jv y :: jv x :: st) M (xnz y F) := by
  intro r h
  unfold xnz at h
  by_cases q : 0 < y
  · rw [if_pos q] at h; exact xg_ldivk hd hp hx ⟨q, hy.2⟩ (K q) r h
  · rw [if_neg q] at h; cases h
theorem xg_lrem {x y : Int} (hd : decode u.2.1 pc = .ok (.lrem, 1)) (hp : pc' = pc + 1) (hx : R64 x) (hy : R64 y) (K : 0 < y → Gv l G u d t kc ks pc' ls (jv (x - x.tdiv y * y) :: st) M F) : Gv l G u d t kc ks pc ls (jv y :: jv x :: st) M (xnz y F) := by
  intro r h
  unfold xnz at h
  by_cases q : 0 < y
  · rw [if_pos q] at h; exact xg_lremk hd hp hx ⟨q, hy.2⟩ (K q) r h
  · rw [if_neg q] at h; cases h
theorem xg_dup {a : Value} (hd : decode u.2.1 pc = .ok (.dup, 1)) (hp : pc' = pc + 1) (h1 : a.category = 1) (K : Gv l G u d t kc ks pc' ls (a :: a :: st) M F) : Gv l G u d t kc ks pc ls (a :: st) M F := by
  subst hp; exact fun r h => xv_dup hd h1 (K r h)
theorem xg_pop {a : Value} (hd : decode u.2.1 pc = .ok (.pop, 1)) (hp : pc' = pc + 1) (h1 : a.category = 1) (K : Gv l G u d t kc ks pc' ls st M F) : Gv l G u d t kc ks pc ls (a :: st) M F := by
  subst hp; exact fun r h => xv_pop hd h1 (K r h)
theorem xg_dup2 {a b : Value} (hd : decode u.2.1 pc = .ok (.dup2, 1)) (hp : pc' = pc + 1) (h1 : a.category = 1) (h2 : b.category = 1) (K : Gv l G u d t kc ks pc' ls (a :: b :: a :: b :: st) M F) : Gv l G u d t kc ks pc ls (a :: b :: st) M F := by
  subst hp; exact fun r h => xv_dup2 hd h1 h2 (K r h)
theorem xg_dup2l {a : Value} (hd : decode u.2.1 pc = .ok (.dup2, 1)) (hp : pc' = pc + 1) (h1 : a.category = 2) (K : Gv l G u d t kc ks pc' ls (a :: a :: st) M F) : Gv l G u d t kc ks pc ls (a :: st) M F := by
  subst hp; exact fun r h => xv_dup2l hd h1 (K r h)
theorem xg_pop2l {a : Value} (hd : decode u.2.1 pc = .ok (.pop2, 1)) (hp : pc' = pc + 1) (h1 : a.category = 2) (K : Gv l G u d t kc ks pc' ls st M F) : Gv l G u d t kc ks pc ls (a :: st) M F := by
  subst hp; exact fun r h => xv_pop2l hd h1 (K r h)
theorem xg_goto {off : Int} {tgt : Nat} (hd : decode u.2.1 pc = .ok (.goto off, 3)) (ht : (pc : Int) + off = (tgt : Int)) (K : Gv l G u d t kc ks tgt ls st M F) : Gv l G u d t kc ks pc ls st M F := fun r h => xv_goto hd ht (K r h)
theorem xg_if_eq {x off : Int} {tgt : Nat} {A B : xO} {i : Decidable (x = 0)} (hd : decode u.2.1 pc = .ok (.ifCond .eq off, 3)) (hp : pc' = pc + 3) (ht : (pc : Int) + off = (tgt : Int)) (hx : R32 x) (K1 : Gv l G u d t kc ks tgt ls st M A) (K2 : Gv l G u d t kc ks pc' ls st M B) : Gv l G u d t kc ks pc ls (iv x :: st) M (@ite xO (x = 0) i A B) := by
  subst hp; intro r h; refine xv_if_eq hd ht hx (fun q => K1 r ?_) (fun q => K2 r ?_)
  · rw [if_pos q] at h; exact h
  · rw [if_neg q] at h; exact h
theorem xg_if_ne {x off : Int} {tgt : Nat} {A B : xO} {i : Decidable (x = 0)} (hd : decode u.2.1 pc = .ok (.ifCond .ne off, 3)) (hp : pc' = pc + 3) (ht : (pc : Int) + off = (tgt : Int)) (hx : R32 x) (K1 : Gv l G u d t kc ks pc' ls st M A) (K2 : Gv l G u d t kc ks tgt ls st M B) : Gv l G u d t kc ks pc ls (iv x :: st) M (@ite xO (x = 0) i A B) := by
  subst hp; intro r h; refine xv_if_ne hd ht hx (fun q => K2 r ?_) (fun q => K1 r ?_)
  · rw [if_neg q] at h; exact h
  · rw [if_pos q] at h; exact h
theorem xg_if_lt {x off : Int} {tgt : Nat} {A B : xO} {i : Decidable (x < 0)} (hd : decode u.2.1 pc = .ok (.ifCond .lt off, 3)) (hp : pc' = pc + 3) (ht : (pc : Int) + off = (tgt : Int)) (hx : R32 x) (K1 : Gv l G u d t kc ks tgt ls st M A) (K2 : Gv l G u d t kc ks pc' ls st M B) : Gv l G u d t kc ks pc ls (iv x :: st) M (@ite xO (x < 0) i A B) := by
  subst hp; intro r h; refine xv_if_lt hd ht hx (fun q => K1 r ?_) (fun q => K2 r ?_)
  · rw [if_pos q] at h; exact h
  · rw [if_neg q] at h; exact h
theorem xg_if_ge {x off : Int} {tgt : Nat} {A B : xO} {i : Decidable (0 ≤ x)} (hd : decode u.2.1 pc = .ok (.ifCond .ge off, 3)) (hp : pc' = pc + 3) (ht : (pc : Int) + off = (tgt : Int)) (hx : R32 x) (K1 : Gv l G u d t kc ks tgt ls st M A) (K2 : Gv l G u d t kc ks pc' ls st M B) : Gv l G u d t kc ks pc ls (iv x :: st) M (@ite xO (0 ≤ x) i A B) := by
  subst hp; intro r h; refine xv_if_ge hd ht hx (fun q => K1 r ?_) (fun q => K2 r ?_)
  · rw [if_pos q] at h; exact h
  · rw [if_neg q] at h; exact h
theorem xg_if_gt {x off : Int} {tgt : Nat} {A B : xO} {i : Decidable (0 < x)} (hd : decode u.2.1 pc = .ok (.ifCond .gt off, 3)) (hp : pc' = pc + 3) (ht : (pc : Int) + off = (tgt : Int)) (hx : R32 x) (K1 : Gv l G u d t kc ks tgt ls st M A) (K2 : Gv l G u d t kc ks pc' ls st M B) : Gv l G u d t kc ks pc ls (iv x :: st) M (@ite xO (0 < x) i A B) := by
  subst hp; intro r h; refine xv_if_gt hd ht hx (fun q => K1 r ?_) (fun q => K2 r ?_)
  · rw [if_pos q] at h; exact h
  · rw [if_neg q] at h; exact h
theorem xg_if_le {x off : Int} {tgt : Nat} {A B : xO} {i : Decidable (x ≤ 0)} (hd : decode u.2.1 pc = .ok (.ifCond .le off, 3)) (hp : pc' = pc + 3) (ht : (pc : Int) + off = (tgt : Int)) (hx : R32 x) (K1 : Gv l G u d t kc ks tgt ls st M A) (K2 : Gv l G u d t kc ks pc' ls st M B) : Gv l G u d t kc ks pc ls (iv x :: st) M (@ite xO (x ≤ 0) i A B) := by
  subst hp; intro r h; refine xv_if_le hd ht hx (fun q => K1 r ?_) (fun q => K2 r ?_)
  · rw [if_pos q] at h; exact h
  · rw [if_neg q] at h; exact h
theorem xg_icmp_eq {x y off : Int} {tgt : Nat} {A B : xO} {i : Decidable (x = y)} (hd : decode u.2.1 pc = .ok (.if_icmp .eq off, 3)) (hp : pc' = pc + 3) (ht : (pc : Int) + off = (tgt : Int)) (hx : R32 x) (hy : R32 y) (K1 : Gv l G u d t kc ks tgt ls st M A) (K2 : Gv l G u d t kc ks pc' ls st M B) : Gv l G u d t kc ks pc ls (iv y :: iv x :: st) M (@ite xO (x = y) i A B) := by
  subst hp; intro r h; refine xv_icmp_eq hd ht hx hy (fun q => K1 r ?_) (fun q => K2 r ?_)
  · rw [if_pos q] at h; exact h
  · rw [if_neg q] at h; exact h
theorem xg_lif_eq {x y off : Int} {tgt pc1 : Nat} {A B : xO} {i : Decidable (x = y)} (hd0 : decode u.2.1 pc = .ok (.lcmp, 1)) (hp1 : pc1 = pc + 1) (hd : decode u.2.1 pc1 = .ok (.ifCond .eq off, 3)) (hp : pc' = pc1 + 3) (ht : (pc1 : Int) + off = (tgt : Int)) (hx : R64 x) (hy : R64 y) (K1 : Gv l G u d t kc ks tgt ls st M A) (K2 : Gv l G u d t kc ks pc' ls st M B) : Gv l G u d t kc ks pc ls (jv y :: jv x :: st) M (@ite xO (x = y) i A B) := by
  subst hp; subst hp1; intro r h; refine xv_lif_eq hd0 hd ht (fun q => K1 r ?_) (fun q => K2 r ?_) <;> rw [w64_id hx, w64_id hy] at q
  · rw [if_pos q] at h; exact h
  · rw [if_neg q] at h; exact h
theorem xg_icmp_ne {x y off : Int} {tgt : Nat} {A B : xO} {i : Decidable (x = y)} (hd : decode u.2.1 pc = .ok (.if_icmp .ne off, 3)) (hp : pc' = pc + 3) (ht : (pc : Int) + off = (tgt : Int)) (hx : R32 x) (hy : R32 y) (K1 : Gv l G u d t kc ks pc' ls st M A) (K2 : Gv l G u d t kc ks tgt ls st M B) : Gv l G u d t kc ks pc ls (iv y :: iv x :: st) M (@ite xO (x = y) i A B) := by
  subst hp; intro r h; refine xv_icmp_ne hd ht hx hy (fun q => K2 r ?_) (fun q => K1 r ?_)
  · rw [if_neg q] at h; exact h
  · rw [if_pos q] at h; exact h
theorem xg_lif_ne {x y off : Int} {tgt pc1 : Nat} {A B : xO} {i : Decidable (x = y)} (hd0 : decode u.2.1 pc = .ok (.lcmp, 1)) (hp1 : pc1 = pc + 1) (hd : decode u.2.1 pc1 = .ok (.ifCond .ne off, 3)) (hp : pc' = pc1 + 3) (ht : (pc1 : Int) + off = (tgt : Int)) (hx : R64 x) (hy : R64 y) (K1 : Gv l G u d t kc ks pc' ls st M A) (K2 : Gv l G u d t kc ks tgt ls st M B) : Gv l G u d t kc ks pc ls (jv y :: jv x :: st) M (@ite xO (x = y) i A B) := by
  subst hp; subst hp1; intro r h; refine xv_lif_ne hd0 hd ht (fun q => K2 r ?_) (fun q => K1 r ?_) <;> rw [w64_id hx, w64_id hy] at q
  · rw [if_neg q] at h; exact h
  · rw [if_pos q] at h; exact h
theorem xg_icmp_lt {x y off : Int} {tgt : Nat} {A B : xO} {i : Decidable (x < y)} (hd : decode u.2.1 pc = .ok (.if_icmp .lt off, 3)) (hp : pc' = pc + 3) (ht : (pc : Int) + off = (tgt : Int)) (hx : R32 x) (hy : R32 y) (K1 : Gv l G u d t kc ks tgt ls st M A) (K2 : Gv l G u d t kc ks pc' ls st M B) : Gv l G u d t kc ks pc ls (iv y :: iv x :: st) M (@ite xO (x < y) i A B) := by
  subst hp; intro r h; refine xv_icmp_lt hd ht hx hy (fun q => K1 r ?_) (fun q => K2 r ?_)
  · rw [if_pos q] at h; exact h
  · rw [if_neg q] at h; exact h
theorem xg_lif_lt {x y off : Int} {tgt pc1 : Nat} {A B : xO} {i : Decidable (x < y)} (hd0 : decode u.2.1 pc = .ok (.lcmp, 1)) (hp1 : pc1 = pc + 1) (hd : decode u.2.1 pc1 = .ok (.ifCond .lt off, 3)) (hp : pc' = pc1 + 3) (ht : (pc1 : Int) + off = (tgt : Int)) (hx : R64 x) (hy : R64 y) (K1 : Gv l G u d t kc ks tgt ls st M A) (K2 : Gv l G u d t kc ks pc' ls st M B) : Gv l G u d t kc ks pc ls (jv y :: jv x :: st) M (@ite xO (x < y) i A B) := by
  subst hp; subst hp1; intro r h; refine xv_lif_lt hd0 hd ht (fun q => K1 r ?_) (fun q => K2 r ?_) <;> rw [w64_id hx, w64_id hy] at q
  · rw [if_pos q] at h; exact h
  · rw [if_neg q] at h; exact h
theorem xg_icmp_ge {x y off : Int} {tgt : Nat} {A B : xO} {i : Decidable (y ≤ x)} (hd : decode u.2.1 pc = .ok (.if_icmp .ge off, 3)) (hp : pc' = pc + 3) (ht : (pc : Int) + off = (tgt : Int)) (hx : R32 x) (hy : R32 y) (K1 : Gv l G u d t kc ks tgt ls st M A) (K2 : Gv l G u d t kc ks pc' ls st M B) : Gv l G u d t kc ks pc ls (iv y :: iv x :: st) M (@ite xO (y ≤ x) i A B) := by
  subst hp; intro r h; refine xv_icmp_ge hd ht hx hy (fun q => K1 r ?_) (fun q => K2 r ?_)
  · rw [if_pos q] at h; exact h
  · rw [if_neg q] at h; exact h
theorem xg_lif_ge {x y off : Int} {tgt pc1 : Nat} {A B : xO} {i : Decidable (y ≤ x)} (hd0 : decode u.2.1 pc = .ok (.lcmp, 1)) (hp1 : pc1 = pc + 1) (hd : decode u.2.1 pc1 = .ok (.ifCond .ge off, 3)) (hp : pc' = pc1 + 3) (ht : (pc1 : Int) + off = (tgt : Int)) (hx : R64 x) (hy : R64 y) (K1 : Gv l G u d t kc ks tgt ls st M A) (K2 : Gv l G u d t kc ks pc' ls st M B) : Gv l G u d t kc ks pc ls (jv y :: jv x :: st) M (@ite xO (y ≤ x) i A B) := by
  subst hp; subst hp1; intro r h; refine xv_lif_ge hd0 hd ht (fun q => K1 r ?_) (fun q => K2 r ?_) <;> rw [w64_id hx, w64_id hy] at q
  · rw [if_pos q] at h; exact h
  · rw [if_neg q] at h; exact h
theorem xg_icmp_gt {x y off : Int} {tgt : Nat} {A B : xO} {i : Decidable (y < x)} (hd : decode u.2.1 pc = .ok (.if_icmp .gt off, 3)) (hp : pc' = pc + 3) (ht : (pc : Int) + off = (tgt : Int)) (hx : R32 x) (hy : R32 y) (K1 : Gv l G u d t kc ks tgt ls st M A) (K2 : Gv l G u d t kc ks pc' ls st M B) : Gv l G u d t kc ks pc ls (iv y :: iv x :: st) M (@ite xO (y < x) i A B) := by
  subst hp; intro r h; refine xv_icmp_gt hd ht hx hy (fun q => K1 r ?_) (fun q => K2 r ?_)
  · rw [if_pos q] at h; exact h
  · rw [if_neg q] at h; exact h
theorem xg_lif_gt {x y off : Int} {tgt pc1 : Nat} {A B : xO} {i : Decidable (y < x)} (hd0 : decode u.2.1 pc = .ok (.lcmp, 1)) (hp1 : pc1 = pc + 1) (hd : decode u.2.1 pc1 = .ok (.ifCond .gt off, 3)) (hp : pc' = pc1 + 3) (ht : (pc1 : Int) + off = (tgt : Int)) (hx : R64 x) (hy : R64 y) (K1 : Gv l G u d t kc ks tgt ls st M A) (K2 : Gv l G u d t kc ks pc' ls st M B) : Gv l G u d t kc ks pc ls (jv y :: jv x :: st) M (@ite xO (y < x) i A B) := by
  subst hp; subst hp1; intro r h; refine xv_lif_gt hd0 hd ht (fun q => K1 r ?_) (fun q => K2 r ?_) <;> rw [w64_id hx, w64_id hy] at q
  · rw [if_pos q] at h; exact h
  · rw [if_neg q] at h; exact h
theorem xg_icmp_le {x y off : Int} {tgt : Nat} {A B : xO} {i : Decidable (x ≤ y)} (hd : decode u.2.1 pc = .ok (.if_icmp .le off, 3)) (hp : pc' = pc + 3) (ht : (pc : Int) + off = (tgt : Int)) (hx : R32 x) (hy : R32 y) (K1 : Gv l G u d t kc ks tgt ls st M A) (K2 : Gv l G u d t kc ks pc' ls st M B) : Gv l G u d t kc ks pc ls (iv y :: iv x :: st) M (@ite xO (x ≤ y) i A B) := by
  subst hp; intro r h; refine xv_icmp_le hd ht hx hy (fun q => K1 r ?_) (fun q => K2 r ?_)
  · rw [if_pos q] at h; exact h
  · rw [if_neg q] at h; exact h
theorem xg_lif_le {x y off : Int} {tgt pc1 : Nat} {A B : xO} {i : Decidable (x ≤ y)} (hd0 : decode u.2.1 pc = .ok (.lcmp, 1)) (hp1 : pc1 = pc + 1) (hd : decode u.2.1 pc1 = .ok (.ifCond .le off, 3)) (hp : pc' = pc1 + 3) (ht : (pc1 : Int) + off = (tgt : Int)) (hx : R64 x) (hy : R64 y) (K1 : Gv l G u d t kc ks tgt ls st M A) (K2 : Gv l G u d t kc ks pc' ls st M B) : Gv l G u d t kc ks pc ls (jv y :: jv x :: st) M (@ite xO (x ≤ y) i A B) := by
  subst hp; subst hp1; intro r h; refine xv_lif_le hd0 hd ht (fun q => K1 r ?_) (fun q => K2 r ?_) <;> rw [w64_id hx, w64_id hy] at q
  · rw [if_pos q] at h; exact h
  · rw [if_neg q] at h; exact h
theorem xg_getI {ci c k idx N : Nat} {ref C : String} {T : u_T} (hC : xCl ci C T N) (ho : xOb ci c) (ht : (xft ci)[k]? = some 0) (hw : Cond.fieldLink u.1 idx ref (T k).2.1 (T k).2.2.1 ∈ xw) (href : ref = (T k).1) (hd : decode u.2.1 pc = .ok (.getfield idx, 3)) (hp : pc' = pc + 3) (K : Gv l G u d t kc ks pc' ls (iv (M c k) :: st) M F) : Gv l G u d t kc ks pc ls (.ref c :: st) M F := by
  subst hp; exact fun r h => xv_getI hC (xlg_o ho hC.2.2.2.2.2) ht hw href hd (K r h)
theorem xg_getZ {ci c k idx N : Nat} {ref C : String} {T : u_T} (hC : xCl ci C T N) (ho : xOb ci c) (ht : (xft ci)[k]? = some 1) (hw : Cond.fieldLink u.1 idx ref (T k).2.1 (T k).2.2.1 ∈ xw) (href : ref = (T k).1) (hd : decode u.2.1 pc = .ok (.getfield idx, 3)) (hp : pc' = pc + 3) (hM : xcan M) (K : Gv l G u d t kc ks pc' ls (iv (M c k) :: st) M F) : Gv l G u d t kc ks pc ls (.ref c :: st) M F := by
  subst hp; exact fun r h => xv_getZ hC (xlg_o ho hC.2.2.2.2.2) ht hw href hd (by rw [xz_id (hM.Z ho ht)]; exact K r h)
theorem xg_getJ {ci c k idx N : Nat} {ref C : String} {T : u_T} (hC : xCl ci C T N) (ho : xOb ci c) (ht : (xft ci)[k]? = some 2) (hw : Cond.fieldLink u.1 idx ref (T k).2.1 (T k).2.2.1 ∈ xw) (href : ref = (T k).1) (hd : decode u.2.1 pc = .ok (.getfield idx, 3)) (hp : pc' = pc + 3) (K : Gv l G u d t kc ks pc' ls (jv (M c k) :: st) M F) : Gv l G u d t kc ks pc ls (.ref c :: st) M F := by
  subst hp; exact fun r h => xv_getJ hC (xlg_o ho hC.2.2.2.2.2) ht hw href hd (K r h)
theorem xg_getR {ci c k idx N : Nat} {ref C : String} {T : u_T} (hC : xCl ci C T N) (ho : xOb ci c) (ht : (xft ci)[k]? = some 3) (hw : Cond.fieldLink u.1 idx ref (T k).2.1 (T k).2.2.1 ∈ xw) (href : ref = (T k).1) (hr0 : xLrf c k = some (xr c k)) (hd : decode u.2.1 pc = .ok (.getfield idx, 3)) (hp : pc' = pc + 3) (K : Gv l G u d t kc ks pc' ls (.ref (xr c k) :: st) M F) : Gv l G u d t kc ks pc ls (.ref c :: st) M F := by
  subst hp; exact fun r h => xv_getR hC (xlg_o ho hC.2.2.2.2.2) ht hw href hr0 hd (K r h)
theorem xg_putI {ci c k idx N : Nat} {ref C : String} {T : u_T} (hC : xCl ci C T N) (ho : xOb ci c) (ht : (xft ci)[k]? = some 0) (hw : Cond.fieldLink u.1 idx ref (T k).2.1 (T k).2.2.1 ∈ xw) (href : ref = (T k).1) {v : Int} {k9 : xM → xO} (hpd : parseFieldDescriptor (T k).2.2.1 = some .int) (hd : decode u.2.1 pc = .ok (.putfield idx, 3)) (hp : pc' = pc + 3) (hfin : (T k).2.2.2 = false) (hM : xcan M) (hv : R32 v) (K : ∀ M', xcan M' → Gv l G u d t kc ks pc' ls st M' (k9 M')) : Gv l G u d t kc ks pc ls (iv v :: .ref c :: st) M (xput c k v M k9) := by
  subst hp; exact fun r h => xv_putI hC (xlg_o ho hC.2.2.2.2.2) ht hw href hpd hd hfin (K _ (hM.putI ho ht hv) r h)
theorem xg_putJ {ci c k idx N : Nat} {ref C : String} {T : u_T} (hC : xCl ci C T N) (ho : xOb ci c) (ht : (xft ci)[k]? = some 2) (hw : Cond.fieldLink u.1 idx ref (T k).2.1 (T k).2.2.1 ∈ xw) (href : ref = (T k).1) {v : Int} {k9 : xM → xO} (hpd : parseFieldDescriptor (T k).2.2.1 = some .long) (hd : decode u.2.1 pc = .ok (.putfield idx, 3)) (hp : pc' = pc + 3) (hfin : (T k).2.2.2 = false) (hM : xcan M) (hv : R64 v) (K : ∀ M', xcan M' → Gv l G u d t kc ks pc' ls st M' (k9 M')) : Gv l G u d t kc ks pc ls (jv v :: .ref c :: st) M (xput c k v M k9) := by
  subst hp; exact fun r h => xv_putJ hC (xlg_o ho hC.2.2.2.2.2) ht hw href hpd hd hfin (K _ (hM.putJ ho ht hv) r h)
theorem xg_putZ {ci c k idx N : Nat} {ref C : String} {T : u_T} (hC : xCl ci C T N) (ho : xOb ci c) (ht : (xft ci)[k]? = some 1) (hw : Cond.fieldLink u.1 idx ref (T k).2.1 (T k).2.2.1 ∈ xw) (href : ref = (T k).1) {v : Int} {k9 : xM → xO} (hpd : parseFieldDescriptor (T k).2.2.1 = some .boolean) (hd : decode u.2.1 pc = .ok (.putfield idx, 3)) (hp : pc' = pc + 3) (hfin : (T k).2.2.2 = false) (hM : xcan M) (hv : B01 v) (K : ∀ M', xcan M' → Gv l G u d t kc ks pc' ls st M' (k9 M')) : Gv l G u d t kc ks pc ls (iv v :: .ref c :: st) M (xput c k v M k9) := by
  subst hp; exact fun r h => xv_putZ hC (xlg_o ho hC.2.2.2.2.2) ht hw href hpd hd hfin hv (K _ (hM.putZ ho ht hv) r h)
theorem xg_iald {c n : Nat} {z : Int} (ho : xAn 0 n c) (hd : decode u.2.1 pc = .ok (.iaload, 1)) (hp : pc' = pc + 1) (K : Gv l G u d t kc ks pc' ls (iv (M c z.toNat) :: st) M F) : Gv l G u d t kc ks pc ls (iv z :: .ref c :: st) M (xix z n F) := by
  subst hp; intro r h
  unfold xix at h
  by_cases q : 0 ≤ z ∧ z < (n : Int)
  · rw [if_pos q] at h; exact xv_iald (xlg_a ho) (Int.toNat_of_nonneg q.1).symm (by omega) ho.le hd (K r h)
  · rw [if_neg q] at h; cases h
theorem xg_ialdk {c n k : Nat} {z : Int} (ho : xAn 0 n c) (hd : decode u.2.1 pc = .ok (.iaload, 1)) (hp : pc' = pc + 1) (hz : z = (k : Int)) (hk : k < n) (K : Gv l G u d t kc ks pc' ls (iv (M c k) :: st) M F) : Gv l G u d t kc ks pc ls (iv z :: .ref c :: st) M F := by
  subst hp; exact fun r h => xv_iald (xlg_a ho) hz hk ho.le hd (K r h)
theorem xg_lald {c n : Nat} {z : Int} (ho : xAn 1 n c) (hd : decode u.2.1 pc = .ok (.laload, 1)) (hp : pc' = pc + 1) (K : Gv l G u d t kc ks pc' ls (jv (M c z.toNat) :: st) M F) : Gv l G u d t kc ks pc ls (iv z :: .ref c :: st) M (xix z n F) := by
  subst hp; intro r h
  unfold xix at h
  by_cases q : 0 ≤ z ∧ z < (n : Int)
  · rw [if_pos q] at h; exact xv_lald (xlg_a ho) (Int.toNat_of_nonneg q.1).symm (by omega) ho.le hd (K r h)
  · rw [if_neg q] at h; cases h
theorem xg_laldk {c n k : Nat} {z : Int} (ho : xAn 1 n c) (hd : decode u.2.1 pc = .ok (.laload, 1)) (hp : pc' = pc + 1) (hz : z = (k : Int)) (hk : k < n) (K : Gv l G u d t kc ks pc' ls (jv (M c k) :: st) M F) : Gv l G u d t kc ks pc ls (iv z :: .ref c :: st) M F := by
  subst hp; exact fun r h => xv_lald (xlg_a ho) hz hk ho.le hd (K r h)
theorem xg_iast {c n : Nat} {z v : Int} {k9 : xM → xO} (ho : xAn 0 n c) (hd : decode u.2.1 pc = .ok (.iastore, 1)) (hp : pc' = pc + 1) (hM : xcan M) (hv : R32 v) (K : ∀ M', xcan M' → Gv l G u d t kc ks pc' ls st M' (k9 M')) : Gv l G u d t kc ks pc ls (iv v :: iv z :: .ref c :: st) M (xix z n (xput c z.toNat v M k9)) := by
  subst hp; intro r h
  unfold xix at h
  by_cases q : 0 ≤ z ∧ z < (n : Int)
  · rw [if_pos q] at h; exact xv_iast (xlg_a ho) (Int.toNat_of_nonneg q.1).symm (by omega) ho.le hd (K _ (hM.pai ho hv) r h)
  · rw [if_neg q] at h; cases h
theorem xg_iastk {c n k : Nat} {z v : Int} {k9 : xM → xO} (ho : xAn 0 n c) (hd : decode u.2.1 pc = .ok (.iastore, 1)) (hp : pc' = pc + 1) (hz : z = (k : Int)) (hk : k < n) (hM : xcan M) (hv : R32 v) (K : ∀ M', xcan M' → Gv l G u d t kc ks pc' ls st M' (k9 M')) : Gv l G u d t kc ks pc ls (iv v :: iv z :: .ref c :: st) M (xput c k v M k9) := by
  subst hp; exact fun r h => xv_iast (xlg_a ho) hz hk ho.le hd (K _ (hM.pai ho hv) r h)
theorem xg_last {c n : Nat} {z v : Int} {k9 : xM → xO} (ho : xAn 1 n c) (hd : decode u.2.1 pc = .ok (.lastore, 1)) (hp : pc' = pc + 1) (hM : xcan M) (hv : R64 v) (K : ∀ M', xcan M' → Gv l G u d t kc ks pc' ls st M' (k9 M')) : Gv l G u d t kc ks pc ls (jv v :: iv z :: .ref c :: st) M (xix z n (xput c z.toNat v M k9)) := by
  subst hp; intro r h
  unfold xix at h
  by_cases q : 0 ≤ z ∧ z < (n : Int)
  · rw [if_pos q] at h; exact xv_last (xlg_a ho) (Int.toNat_of_nonneg q.1).symm (by omega) ho.le hd (K _ (hM.paj ho hv) r h)
  · rw [if_neg q] at h; cases h
theorem xg_lastk {c n k : Nat} {z v : Int} {k9 : xM → xO} (ho : xAn 1 n c) (hd : decode u.2.1 pc = .ok (.lastore, 1)) (hp : pc' = pc + 1) (hz : z = (k : Int)) (hk : k < n) (hM : xcan M) (hv : R64 v) (K : ∀ M', xcan M' → Gv l G u d t kc ks pc' ls st M' (k9 M')) : Gv l G u d t kc ks pc ls (jv v :: iv z :: .ref c :: st) M (xput c k v M k9) := by
  subst hp; exact fun r h => xv_last (xlg_a ho) hz hk ho.le hd (K _ (hM.paj ho hv) r h)
theorem xg_aald {c n a : Nat} {z : Int} {C : String} (ho : xAn a n c) (ha : 3 ≤ a) (ha2 : a < 10) (hC : xtyp a = .object C) (hr0 : ∀ i, i < n → xLrf c i = some (xr c i)) (hd : decode u.2.1 pc = .ok (.aaload, 1)) (hp : pc' = pc + 1) (K : 0 ≤ z ∧ z < (n : Int) → Gv l G u d t kc ks pc' ls (.ref (xr c z.toNat) :: st) M F) : Gv l G u d t kc ks pc ls (iv z :: .ref c :: st) M (xix z n F) := by
  subst hp; intro r h
  unfold xix at h
  by_cases q : 0 ≤ z ∧ z < (n : Int)
  · rw [if_pos q] at h; exact xv_aald (xlg_a ho) ha ha2 hC (Int.toNat_of_nonneg q.1).symm (by omega) ho.le (hr0 _ (by omega)) hd (K q r h)
  · rw [if_neg q] at h; cases h
theorem xg_alen {c n a : Nat} {z : Int} (ho : xAn a n c) (ha2 : a < 10) (hd : decode u.2.1 pc = .ok (.arraylength, 1)) (hp : pc' = pc + 1) (hz : (n : Int) = z) (K : Gv l G u d t kc ks pc' ls (iv z :: st) M F) : Gv l G u d t kc ks pc ls (.ref c :: st) M F := by
  subst hp; subst hz; exact fun r h => xv_alen (xlg_a ho) ha2 hd (K r h)
theorem xmax_r {x y : Int} (hx : R64 x) (hy : R64 y) : R64 (max x y) := by omega
theorem xmin_r {x y : Int} (hx : R64 x) (hy : R64 y) : R64 (min x y) := by omega
theorem xmaxi_r {x y : Int} (hx : R32 x) (hy : R32 y) : R32 (max x y) := by omega
theorem xmini_r {x y : Int} (hx : R32 x) (hy : R32 y) : R32 (min x y) := by omega
theorem xg_mmaxi {idx : Nat} {x y : Int} (w1 : Cond.methodLink u.1 idx Lib.Math.max.name ∈ xw) (w2 : Cond.static Lib.Math.max.name ∈ xw) (w3 : Cond.initialized "java/lang/Math" ∈ xw) (w4 : Cond.code Lib.Math.max.name Lib.Math.max.code 2 (some .int) ∈ xw) (hd : decode u.2.1 pc = .ok (.invokestatic idx, 3)) (hp : pc' = pc + 3) (hx : R32 x) (hy : R32 y) (hW : (st.map Value.category).sum ≤ 8) (K : Gv l G u d t kc ks pc' ls (iv (max x y) :: st) M F) : Gv l G u d t kc ks pc ls (iv y :: iv x :: st) M F := by
  subst hp; intro r h
  refine xv_mmaxi w1 w2 w3 w4 hd hW ?_
  rw [w32_id hx, w32_id hy]
  have K := K r h
  first | rw [show (if x < y then y else x) = max x y by split <;> omega] | rw [show (if y < x then x else y) = max x y by split <;> omega]
  exact K
theorem xg_mmini {idx : Nat} {x y : Int} (w1 : Cond.methodLink u.1 idx Lib.Math.min.name ∈ xw) (w2 : Cond.static Lib.Math.min.name ∈ xw) (w3 : Cond.initialized "java/lang/Math" ∈ xw) (w4 : Cond.code Lib.Math.min.name Lib.Math.min.code 2 (some .int) ∈ xw) (hd : decode u.2.1 pc = .ok (.invokestatic idx, 3)) (hp : pc' = pc + 3) (hx : R32 x) (hy : R32 y) (hW : (st.map Value.category).sum ≤ 8) (K : Gv l G u d t kc ks pc' ls (iv (min x y) :: st) M F) : Gv l G u d t kc ks pc ls (iv y :: iv x :: st) M F := by
  subst hp; intro r h
  refine xv_mmini w1 w2 w3 w4 hd hW ?_
  rw [w32_id hx, w32_id hy]
  have K := K r h
  first | rw [show (if y < x then y else x) = min x y by split <;> omega] | rw [show (if x < y then x else y) = min x y by split <;> omega]
  exact K
theorem xg_mmaxl {idx : Nat} {x y : Int} (w1 : Cond.methodLink u.1 idx Lib.MathLoose.max_long.x ∈ xw) (w2 : Cond.static Lib.MathLoose.max_long.x ∈ xw) (w3 : Cond.initialized "java/lang/Math" ∈ xw) (w4 : Cond.code Lib.MathLoose.max_long.x Lib.MathLoose.max_long.code 4 (some .long) ∈ xw) (hd : decode u.2.1 pc = .ok (.invokestatic idx, 3)) (hp : pc' = pc + 3) (hx : R64 x) (hy : R64 y) (hW : (st.map Value.category).sum ≤ 8) (K : Gv l G u d t kc ks pc' ls (jv (max x y) :: st) M F) : Gv l G u d t kc ks pc ls (jv y :: jv x :: st) M F := by
  subst hp; intro r h
  refine xv_mmaxl w1 w2 w3 w4 hd hW ?_
  rw [w64_id hx, w64_id hy]
  have K := K r h
  first | rw [show (if x < y then y else x) = max x y by split <;> omega] | rw [show (if y < x then x else y) = max x y by split <;> omega]
  exact K
theorem xg_mminl {idx : Nat} {x y : Int} (w1 : Cond.methodLink u.1 idx Lib.MathLoose.min_long.x ∈ xw) (w2 : Cond.static Lib.MathLoose.min_long.x ∈ xw) (w3 : Cond.initialized "java/lang/Math" ∈ xw) (w4 : Cond.code Lib.MathLoose.min_long.x Lib.MathLoose.min_long.code 4 (some .long) ∈ xw) (hd : decode u.2.1 pc = .ok (.invokestatic idx, 3)) (hp : pc' = pc + 3) (hx : R64 x) (hy : R64 y) (hW : (st.map Value.category).sum ≤ 8) (K : Gv l G u d t kc ks pc' ls (jv (min x y) :: st) M F) : Gv l G u d t kc ks pc ls (jv y :: jv x :: st) M F := by
  subst hp; intro r h
  refine xv_mminl w1 w2 w3 w4 hd hW ?_
  rw [w64_id hx, w64_id hy]
  have K := K r h
  first | rw [show (if y < x then y else x) = min x y by split <;> omega] | rw [show (if x < y then x else y) = min x y by split <;> omega]
  exact K
theorem xg_mabs {idx : Nat} {x : Int} (w1 : Cond.methodLink u.1 idx Lib.Math.abs.name ∈ xw) (w2 : Cond.static Lib.Math.abs.name ∈ xw) (w3 : Cond.initialized "java/lang/Math" ∈ xw) (w4 : Cond.code Lib.Math.abs.name Lib.Math.abs.code 1 (some .int) ∈ xw) (hd : decode u.2.1 pc = .ok (.invokestatic idx, 3)) (hp : pc' = pc + 3) (hx : R32 x) (hW : (st.map Value.category).sum ≤ 8) (K : Gv l G u d t kc ks pc' ls (iv (w32 (if 0 ≤ x then x else -x)) :: st) M F) : Gv l G u d t kc ks pc ls (iv x :: st) M F := by
  subst hp; intro r h
  refine xv_mabs w1 w2 w3 w4 hd hW ?_
  rw [w32_id hx, ← iv_w32]
  exact K r h
theorem xg_iret {z : Int} (hr0 : u.2.2.2.1 = some .int) (hd : decode u.2.1 pc = .ok (.ireturn, 1)) (ht : t = 0) (hM : xcan M) (hz : R32 z) : Gv l G u d t kc ks pc ls [iv z] M (xret z M) := by
  subst ht; intro r h; cases h
  exact xv_iret hr0 hd ⟨z, rfl, rfl, hz, Or.inr ⟨rfl, hM⟩⟩
theorem xg_zret {z : Int} (hr0 : u.2.2.2.1 = some .boolean) (hd : decode u.2.1 pc = .ok (.ireturn, 1)) (ht : t = 1) (hM : xcan M) (hz : B01 z) : Gv l G u d t kc ks pc ls [iv z] M (xret z M) := by
  subst ht; intro r h; cases h
  exact xv_zret hr0 (by rcases hz with rfl | rfl <;> decide) hd ⟨z, rfl, rfl, hz, Or.inr ⟨rfl, hM⟩⟩
theorem xg_lret {z : Int} (hr0 : u.2.2.2.1 = some .long) (hd : decode u.2.1 pc = .ok (.lreturn, 1)) (ht : t = 2) (hM : xcan M) (hz : R64 z) : Gv l G u d t kc ks pc ls [jv z] M (xret z M) := by
  subst ht; intro r h; cases h
  exact xv_lret hr0 hd ⟨z, rfl, rfl, hz, Or.inr ⟨rfl, hM⟩⟩
theorem xg_vret (hr0 : u.2.2.2.1 = none) (hd : decode u.2.1 pc = .ok (.return_, 1)) (ht : t = 3) (hM : xcan M) : Gv l G u d t kc ks pc ls [] M (xret 0 M) := by
  subst ht; intro r h; cases h
  exact xv_vret hr0 hd ⟨0, rfl, rfl, trivial, Or.inr ⟨rfl, hM⟩⟩
theorem xg_aret {c ci : Nat} {C : String} (hr0 : u.2.2.2.1 = some (.object C)) (hd : decode u.2.1 pc = .ok (.areturn, 1)) (ht : t = ci + 10) (hM : xcan M) (hz : xOb ci c) : Gv l G u d t kc ks pc ls [.ref c] M (xret (c : Int) M) := by
  subst ht; intro r h; cases h
  exact xv_aret hr0 hd ⟨(c : Int), rfl, rfl, hz, Or.inr ⟨rfl, hM⟩⟩
/-- what a call's answer is to the caller -/
theorem xg_ret {t' : Nat} {Fc : xO} {k9 : Int → xM → xO} {st0 : List Value} (h5 : t' ≠ 5) (htab : u.2.2.2.2.1 = [])
    (run : ∀ r0 : (Int ⊕ Nat) × xM, Fc = some r0 → ∀ r : (Int ⊕ Nat) × xM,
      (∀ v σ', xQr G t' r0 v σ' → (xLG G).1 ≤ σ'.1.1 → Ev l G u d (xQr G t r) (xQx G t r) kc ks (pc + 3) ls (v.toList ++ st) σ') →
      (∀ k σ', xQx G t' r0 k σ' → k < 3 → (xLG G).1 ≤ σ'.1.1 → Xv l G u d (xQr G t r) (xQx G t r) kc ks pc ls st σ' k) → Ev l G u d (xQr G t r) (xQx G t r) kc0 ks0 pc ls st0 (xLG G, M))
    (K : ∀ z M', xRt t' z → xcan M' → Gv l G u d t kc ks (pc + 3) ls ((xvo t' z).toList ++ st) M' (k9 z M')) : Gv l G u d t kc0 ks0 pc ls st0 M (xb Fc k9) := by
  intro r h
  cases hF : Fc with
  | none => rw [hF] at h; cases h
  | some r0 =>
    obtain ⟨r1, M1⟩ := r0
    rw [hF] at h
    refine run _ hF r ?_ ?_
    · rintro v σ' ⟨z, e1, rfl, hz, q5⟩ -
      obtain ⟨rfl, hM1⟩ := q5.resolve_left h5
      dsimp only at e1; subst e1
      exact K z M1 hz hM1 r h
    · rintro k σ' ⟨e1, q5⟩ hk -
      obtain ⟨rfl, hM1⟩ := q5.resolve_left h5
      dsimp only at e1; subst e1
      cases h
      exact xx_out hk htab ⟨rfl, Or.inr ⟨rfl, hM1⟩⟩
theorem xkp_of {t' : Nat} {r0 : (Int ⊕ Nat) × xM} (h5 : t' ≠ 5) : xkp (xQr G t' r0) (xQx G t' r0) ls st (xLG G, M) := Or.inr ⟨by rintro v σ' ⟨z, -, -, -, q5⟩; rw [(q5.resolve_left h5).1], by rintro k σ' ⟨-, q5⟩; rw [(q5.resolve_left h5).1]⟩
theorem xg_callV {n d' nL' kc' ks' t' idx : Nat} {y : MethodName} {cc' : ByteArray} {ret' : Option FieldType} {vs st0 : List Value} {Fc : xO} {k9 : Int → xM → xO} {b ci N : Nat} {C : String} {T : u_T}
    (h5 : t' ≠ 5) (hM : Cm l G y cc' nL' ret' d' t' kc' ks' (.ref b :: vs) M Fc) (B : xYV y cc' nL' ret' n) (hC : xCl ci C T N) (hb0 : xOb ci b) (hyc : y.cls = C) (w1 : Cond.methodLink u.1 idx y ∈ xw) (hn : vs.length = n) (hdl : d' < d) (htab : u.2.2.2.2.1 = [])
    (hW : (st.map Value.category).sum ≤ 8) (hd : decode u.2.1 pc = .ok (.invokevirtual idx, 3)) (hs0 : st0 = vs.reverse ++ .ref b :: st) (hkc : kc + kc' ≤ kc0) (hks : ks + ks' ≤ ks0)
    (K : ∀ z M', xRt t' z → xcan M' → Gv l G u d t kc ks (pc + 3) ls ((xvo t' z).toList ++ st) M' (k9 z M')) : Gv l G u d t kc0 ks0 pc ls st0 M (xb Fc k9) :=
  xg_ret h5 htab (fun r0 hF r kr kx => xv_callV (hM r0 hF) hC (xlg_o hb0 hC.2.2.2.2.2) hyc w1 B.1 (hyc ▸ B.2.1) (hyc ▸ B.2.2.1) B.2.2.2.1 B.2.2.2.2.1 hn hdl B.2.2.2.2.2 hW hd hs0 hkc hks (xkp_of h5) kr kx) K
theorem xg_callS {n d' nL' kc' ks' t' idx : Nat} {y : MethodName} {cc' : ByteArray} {ret' : Option FieldType} {vs st0 : List Value} {Fc : xO} {k9 : Int → xM → xO}
    (h5 : t' ≠ 5) (hM : Cm l G y cc' nL' ret' d' t' kc' ks' vs M Fc) (B : xYS y cc' nL' ret' n) (w1 : Cond.methodLink u.1 idx y ∈ xw) (hn : vs.length = n) (hdl : d' < d) (htab : u.2.2.2.2.1 = [])
    (hW : (st.map Value.category).sum ≤ 8) (hd : decode u.2.1 pc = .ok (.invokestatic idx, 3)) (hs0 : st0 = vs.reverse ++ st) (hkc : kc + kc' ≤ kc0) (hks : ks + ks' ≤ ks0)
    (K : ∀ z M', xRt t' z → xcan M' → Gv l G u d t kc ks (pc + 3) ls ((xvo t' z).toList ++ st) M' (k9 z M')) : Gv l G u d t kc0 ks0 pc ls st0 M (xb Fc k9) :=
  xg_ret h5 htab (fun r0 hF r kr kx => xv_callS (hM r0 hF) w1 B.1 B.2.1 B.2.2.1 B.2.2.2.1 hn hdl B.2.2.2.2 hW hd hs0 hkc hks (xkp_of h5) kr kx) K
theorem xg_callSN {n d' nL' kc' ks' t' idx : Nat} {y : MethodName} {cc' : ByteArray} {ret' : Option FieldType} {vs st0 : List Value} {Fc : xO} {k9 : Int → xM → xO}
    (h5 : t' ≠ 5) (hM : Cm l G y cc' nL' ret' d' t' kc' ks' vs M Fc) (B : xYS y cc' nL' ret' n) (w1 : ∀ U, xK G U → va_Nw (.methodLinkNest u.1 idx y RX11) U) (hn : vs.length = n) (hdl : d' < d) (htab : u.2.2.2.2.1 = [])
    (hW : (st.map Value.category).sum ≤ 8) (hd : decode u.2.1 pc = .ok (.invokestatic idx, 3)) (hs0 : st0 = vs.reverse ++ st) (hkc : kc + kc' ≤ kc0) (hks : ks + ks' ≤ ks0)
    (K : ∀ z M', xRt t' z → xcan M' → Gv l G u d t kc ks (pc + 3) ls ((xvo t' z).toList ++ st) M' (k9 z M')) : Gv l G u d t kc0 ks0 pc ls st0 M (xb Fc k9) :=
  xg_ret h5 htab (fun r0 hF r kr kx => xv_callSN (hM r0 hF) w1 B.1 B.2.1 B.2.2.1 B.2.2.2.1 hn hdl B.2.2.2.2 hW hd hs0 hkc hks (xkp_of h5) kr kx) K
theorem xg_callV_I {n d' nL' kc' ks' idx : Nat} {y : MethodName} {cc' : ByteArray} {ret' : Option FieldType} {vs st0 : List Value} {Fc : xO} {k9 : Int → xM → xO} {b ci N : Nat} {C : String} {T : u_T} (hM : Cm l G y cc' nL' ret' d' 0 kc' ks' (.ref b :: vs) M Fc) (B : xYV y cc' nL' ret' n) (hC : xCl ci C T N) (hb0 : xOb ci b) (hyc : y.cls = C) (w1 : Cond.methodLink u.1 idx y ∈ xw) (hn : vs.length = n) (hdl : d' < d) (htab : u.2.2.2.2.1 = []) (hW : (st.map Value.category).sum ≤ 8) (hd : decode u.2.1 pc = .ok (.invokevirtual idx, 3)) (hp : pc' = pc + 3) (hs0 : st0 = vs.reverse ++ .ref b :: st) (hkc : kc + kc' ≤ kc0) (hks : ks + ks' ≤ ks0) (K : ∀ z M', R32 z → xcan M' → Gv l G u d t kc ks pc' ls (iv z :: st) M' (k9 z M')) : Gv l G u d t kc0 ks0 pc ls st0 M (xb Fc k9) := by
  subst hp; exact xg_callV (by first | decide | omega) hM B hC hb0 hyc w1 hn hdl htab hW hd hs0 hkc hks (fun z M' hz hM' => K z M' hz hM')
theorem xg_callV_Z {n d' nL' kc' ks' idx : Nat} {y : MethodName} {cc' : ByteArray} {ret' : Option FieldType} {vs st0 : List Value} {Fc : xO} {k9 : Int → xM → xO} {b ci N : Nat} {C : String} {T : u_T} (hM : Cm l G y cc' nL' ret' d' 1 kc' ks' (.ref b :: vs) M Fc) (B : xYV y cc' nL' ret' n) (hC : xCl ci C T N) (hb0 : xOb ci b) (hyc : y.cls = C) (w1 : Cond.methodLink u.1 idx y ∈ xw) (hn : vs.length = n) (hdl : d' < d) (htab : u.2.2.2.2.1 = []) (hW : (st.map Value.category).sum ≤ 8) (hd : decode u.2.1 pc = .ok (.invokevirtual idx, 3)) (hp : pc' = pc + 3) (hs0 : st0 = vs.reverse ++ .ref b :: st) (hkc : kc + kc' ≤ kc0) (hks : ks + ks' ≤ ks0) (K : ∀ z M', B01 z → xcan M' → Gv l G u d t kc ks pc' ls (iv z :: st) M' (k9 z M')) : Gv l G u d t kc0 ks0 pc ls st0 M (xb Fc k9) := by
  subst hp; exact xg_callV (by first | decide | omega) hM B hC hb0 hyc w1 hn hdl htab hW hd hs0 hkc hks (fun z M' hz hM' => K z M' hz hM')
theorem xg_callV_J {n d' nL' kc' ks' idx : Nat} {y : MethodName} {cc' : ByteArray} {ret' : Option FieldType} {vs st0 : List Value} {Fc : xO} {k9 : Int → xM → xO} {b ci N : Nat} {C : String} {T : u_T} (hM : Cm l G y cc' nL' ret' d' 2 kc' ks' (.ref b :: vs) M Fc) (B : xYV y cc' nL' ret' n) (hC : xCl ci C T N) (hb0 : xOb ci b) (hyc : y.cls = C) (w1 : Cond.methodLink u.1 idx y ∈ xw) (hn : vs.length = n) (hdl : d' < d) (htab : u.2.2.2.2.1 = []) (hW : (st.map Value.category).sum ≤ 8) (hd : decode u.2.1 pc = .ok (.invokevirtual idx, 3)) (hp : pc' = pc + 3) (hs0 : st0 = vs.reverse ++ .ref b :: st) (hkc : kc + kc' ≤ kc0) (hks : ks + ks' ≤ ks0) (K : ∀ z M', R64 z → xcan M' → Gv l G u d t kc ks pc' ls (jv z :: st) M' (k9 z M')) : Gv l G u d t kc0 ks0 pc ls st0 M (xb Fc k9) := by
  subst hp; exact xg_callV (by first | decide | omega) hM B hC hb0 hyc w1 hn hdl htab hW hd hs0 hkc hks (fun z M' hz hM' => K z M' hz hM')
theorem xg_callV_N {n d' nL' kc' ks' idx : Nat} {y : MethodName} {cc' : ByteArray} {ret' : Option FieldType} {vs st0 : List Value} {Fc : xO} {k9 : Int → xM → xO} {b ci N : Nat} {C : String} {T : u_T} (hM : Cm l G y cc' nL' ret' d' 3 kc' ks' (.ref b :: vs) M Fc) (B : xYV y cc' nL' ret' n) (hC : xCl ci C T N) (hb0 : xOb ci b) (hyc : y.cls = C) (w1 : Cond.methodLink u.1 idx y ∈ xw) (hn : vs.length = n) (hdl : d' < d) (htab : u.2.2.2.2.1 = []) (hW : (st.map Value.category).sum ≤ 8) (hd : decode u.2.1 pc = .ok (.invokevirtual idx, 3)) (hp : pc' = pc + 3) (hs0 : st0 = vs.reverse ++ .ref b :: st) (hkc : kc + kc' ≤ kc0) (hks : ks + ks' ≤ ks0) (K : ∀ z M', True → xcan M' → Gv l G u d t kc ks pc' ls (st) M' (k9 z M')) : Gv l G u d t kc0 ks0 pc ls st0 M (xb Fc k9) := by
  subst hp; exact xg_callV (by first | decide | omega) hM B hC hb0 hyc w1 hn hdl htab hW hd hs0 hkc hks (fun z M' hz hM' => K z M' hz hM')
theorem xg_callV_R {n d' nL' kc' ks' idx : Nat} {y : MethodName} {cc' : ByteArray} {ret' : Option FieldType} {vs st0 : List Value} {Fc : xO} {k9 : Int → xM → xO} {b ci N : Nat} {C : String} {T : u_T} {cr : Nat} (hM : Cm l G y cc' nL' ret' d' (cr + 10) kc' ks' (.ref b :: vs) M Fc) (B : xYV y cc' nL' ret' n) (hC : xCl ci C T N) (hb0 : xOb ci b) (hyc : y.cls = C) (w1 : Cond.methodLink u.1 idx y ∈ xw) (hn : vs.length = n) (hdl : d' < d) (htab : u.2.2.2.2.1 = []) (hW : (st.map Value.category).sum ≤ 8) (hd : decode u.2.1 pc = .ok (.invokevirtual idx, 3)) (hp : pc' = pc + 3) (hs0 : st0 = vs.reverse ++ .ref b :: st) (hkc : kc + kc' ≤ kc0) (hks : ks + ks' ≤ ks0) (K : ∀ z M', xOb cr z.toNat → xcan M' → Gv l G u d t kc ks pc' ls (.ref z.toNat :: st) M' (k9 z M')) : Gv l G u d t kc0 ks0 pc ls st0 M (xb Fc k9) := by
  subst hp; exact xg_callV (by first | decide | omega) hM B hC hb0 hyc w1 hn hdl htab hW hd hs0 hkc hks (fun z M' hz hM' => K z M' hz hM')
theorem xg_callS_I {n d' nL' kc' ks' idx : Nat} {y : MethodName} {cc' : ByteArray} {ret' : Option FieldType} {vs st0 : List Value} {Fc : xO} {k9 : Int → xM → xO} (hM : Cm l G y cc' nL' ret' d' 0 kc' ks' vs M Fc) (B : xYS y cc' nL' ret' n) (w1 : Cond.methodLink u.1 idx y ∈ xw) (hn : vs.length = n) (hdl : d' < d) (htab : u.2.2.2.2.1 = []) (hW : (st.map Value.category).sum ≤ 8) (hd : decode u.2.1 pc = .ok (.invokestatic idx, 3)) (hp : pc' = pc + 3) (hs0 : st0 = vs.reverse ++ st) (hkc : kc + kc' ≤ kc0) (hks : ks + ks' ≤ ks0) (K : ∀ z M', R32 z → xcan M' → Gv l G u d t kc ks pc' ls (iv z :: st) M' (k9 z M')) : Gv l G u d t kc0 ks0 pc ls st0 M (xb Fc k9) := by
  subst hp; exact xg_callS (by first | decide | omega) hM B w1 hn hdl htab hW hd hs0 hkc hks (fun z M' hz hM' => K z M' hz hM')
theorem xg_callS_Z {n d' nL' kc' ks' idx : Nat} {y : MethodName} {cc' : ByteArray} {ret' : Option FieldType} {vs st0 : List Value} {Fc : xO} {k9 : Int → xM → xO} (hM : Cm l G y cc' nL' ret' d' 1 kc' ks' vs M Fc) (B : xYS y cc' nL' ret' n) (w1 : Cond.methodLink u.1 idx y ∈ xw) (hn : vs.length = n) (hdl : d' < d) (htab : u.2.2.2.2.1 = []) (hW : (st.map Value.category).sum ≤ 8) (hd : decode u.2.1 pc = .ok (.invokestatic idx, 3)) (hp : pc' = pc + 3) (hs0 : st0 = vs.reverse ++ st) (hkc : kc + kc' ≤ kc0) (hks : ks + ks' ≤ ks0) (K : ∀ z M', B01 z → xcan M' → Gv l G u d t kc ks pc' ls (iv z :: st) M' (k9 z M')) : Gv l G u d t kc0 ks0 pc ls st0 M (xb Fc k9) := by
  subst hp; exact xg_callS (by first | decide | omega) hM B w1 hn hdl htab hW hd hs0 hkc hks (fun z M' hz hM' => K z M' hz hM')
theorem xg_callS_J {n d' nL' kc' ks' idx : Nat} {y : MethodName} {cc' : ByteArray} {ret' : Option FieldType} {vs st0 : List Value} {Fc : xO} {k9 : Int → xM → xO} (hM : Cm l G y cc' nL' ret' d' 2 kc' ks' vs M Fc) (B : xYS y cc' nL' ret' n) (w1 : Cond.methodLink u.1 idx y ∈ xw) (hn : vs.length = n) (hdl : d' < d) (htab : u.2.2.2.2.1 = []) (hW : (st.map Value.category).sum ≤ 8) (hd : decode u.2.1 pc = .ok (.invokestatic idx, 3)) (hp : pc' = pc + 3) (hs0 : st0 = vs.reverse ++ st) (hkc : kc + kc' ≤ kc0) (hks : ks + ks' ≤ ks0) (K : ∀ z M', R64 z → xcan M' → Gv l G u d t kc ks pc' ls (jv z :: st) M' (k9 z M')) : Gv l G u d t kc0 ks0 pc ls st0 M (xb Fc k9) := by
  subst hp; exact xg_callS (by first | decide | omega) hM B w1 hn hdl htab hW hd hs0 hkc hks (fun z M' hz hM' => K z M' hz hM')
theorem xg_callS_N {n d' nL' kc' ks' idx : Nat} {y : MethodName} {cc' : ByteArray} {ret' : Option FieldType} {vs st0 : List Value} {Fc : xO} {k9 : Int → xM → xO} (hM : Cm l G y cc' nL' ret' d' 3 kc' ks' vs M Fc) (B : xYS y cc' nL' ret' n) (w1 : Cond.methodLink u.1 idx y ∈ xw) (hn : vs.length = n) (hdl : d' < d) (htab : u.2.2.2.2.1 = []) (hW : (st.map Value.category).sum ≤ 8) (hd : decode u.2.1 pc = .ok (.invokestatic idx, 3)) (hp : pc' = pc + 3) (hs0 : st0 = vs.reverse ++ st) (hkc : kc + kc' ≤ kc0) (hks : ks + ks' ≤ ks0) (K : ∀ z M', True → xcan M' → Gv l G u d t kc ks pc' ls (st) M' (k9 z M')) : Gv l G u d t kc0 ks0 pc ls st0 M (xb Fc k9) := by
  subst hp; exact xg_callS (by first | decide | omega) hM B w1 hn hdl htab hW hd hs0 hkc hks (fun z M' hz hM' => K z M' hz hM')
theorem xg_callS_R {n d' nL' kc' ks' idx : Nat} {y : MethodName} {cc' : ByteArray} {ret' : Option FieldType} {vs st0 : List Value} {Fc : xO} {k9 : Int → xM → xO} {cr : Nat} (hM : Cm l G y cc' nL' ret' d' (cr + 10) kc' ks' vs M Fc) (B : xYS y cc' nL' ret' n) (w1 : Cond.methodLink u.1 idx y ∈ xw) (hn : vs.length = n) (hdl : d' < d) (htab : u.2.2.2.2.1 = []) (hW : (st.map Value.category).sum ≤ 8) (hd : decode u.2.1 pc = .ok (.invokestatic idx, 3)) (hp : pc' = pc + 3) (hs0 : st0 = vs.reverse ++ st) (hkc : kc + kc' ≤ kc0) (hks : ks + ks' ≤ ks0) (K : ∀ z M', xOb cr z.toNat → xcan M' → Gv l G u d t kc ks pc' ls (.ref z.toNat :: st) M' (k9 z M')) : Gv l G u d t kc0 ks0 pc ls st0 M (xb Fc k9) := by
  subst hp; exact xg_callS (by first | decide | omega) hM B w1 hn hdl htab hW hd hs0 hkc hks (fun z M' hz hM' => K z M' hz hM')
theorem xg_callSN_I {n d' nL' kc' ks' idx : Nat} {y : MethodName} {cc' : ByteArray} {ret' : Option FieldType} {vs st0 : List Value} {Fc : xO} {k9 : Int → xM → xO} (hM : Cm l G y cc' nL' ret' d' 0 kc' ks' vs M Fc) (B : xYS y cc' nL' ret' n) (w1 : ∀ U, xK G U → va_Nw (.methodLinkNest u.1 idx y RX11) U) (hn : vs.length = n) (hdl : d' < d) (htab : u.2.2.2.2.1 = []) (hW : (st.map Value.category).sum ≤ 8) (hd : decode u.2.1 pc = .ok (.invokestatic idx, 3)) (hp : pc' = pc + 3) (hs0 : st0 = vs.reverse ++ st) (hkc : kc + kc' ≤ kc0) (hks : ks + ks' ≤ ks0) (K : ∀ z M', R32 z → xcan M' → Gv l G u d t kc ks pc' ls (iv z :: st) M' (k9 z M')) : Gv l G u d t kc0 ks0 pc ls st0 M (xb Fc k9) := by
  subst hp; exact xg_callSN (by first | decide | omega) hM B w1 hn hdl htab hW hd hs0 hkc hks (fun z M' hz hM' => K z M' hz hM')
theorem xg_callSN_Z {n d' nL' kc' ks' idx : Nat} {y : MethodName} {cc' : ByteArray} {ret' : Option FieldType} {vs st0 : List Value} {Fc : xO} {k9 : Int → xM → xO} (hM : Cm l G y cc' nL' ret' d' 1 kc' ks' vs M Fc) (B : xYS y cc' nL' ret' n) (w1 : ∀ U, xK G U → va_Nw (.methodLinkNest u.1 idx y RX11) U) (hn : vs.length = n) (hdl : d' < d) (htab : u.2.2.2.2.1 = []) (hW : (st.map Value.category).sum ≤ 8) (hd : decode u.2.1 pc = .ok (.invokestatic idx, 3)) (hp : pc' = pc + 3) (hs0 : st0 = vs.reverse ++ st) (hkc : kc + kc' ≤ kc0) (hks : ks + ks' ≤ ks0) (K : ∀ z M', B01 z → xcan M' → Gv l G u d t kc ks pc' ls (iv z :: st) M' (k9 z M')) : Gv l G u d t kc0 ks0 pc ls st0 M (xb Fc k9) := by
  subst hp; exact xg_callSN (by first | decide | omega) hM B w1 hn hdl htab hW hd hs0 hkc hks (fun z M' hz hM' => K z M' hz hM')
theorem xg_callSN_J {n d' nL' kc' ks' idx : Nat} {y : MethodName} {cc' : ByteArray} {ret' : Option FieldType} {vs st0 : List Value} {Fc : xO} {k9 : Int → xM → xO} (hM : Cm l G y cc' nL' ret' d' 2 kc' ks' vs M Fc) (B : xYS y cc' nL' ret' n) (w1 : ∀ U, xK G U → va_Nw (.methodLinkNest u.1 idx y RX11) U) (hn : vs.length = n) (hdl : d' < d) (htab : u.2.2.2.2.1 = []) (hW : (st.map Value.category).sum ≤ 8) (hd : decode u.2.1 pc = .ok (.invokestatic idx, 3)) (hp : pc' = pc + 3) (hs0 : st0 = vs.reverse ++ st) (hkc : kc + kc' ≤ kc0) (hks : ks + ks' ≤ ks0) (K : ∀ z M', R64 z → xcan M' → Gv l G u d t kc ks pc' ls (jv z :: st) M' (k9 z M')) : Gv l G u d t kc0 ks0 pc ls st0 M (xb Fc k9) := by
  subst hp; exact xg_callSN (by first | decide | omega) hM B w1 hn hdl htab hW hd hs0 hkc hks (fun z M' hz hM' => K z M' hz hM')
theorem xg_callSN_N {n d' nL' kc' ks' idx : Nat} {y : MethodName} {cc' : ByteArray} {ret' : Option FieldType} {vs st0 : List Value} {Fc : xO} {k9 : Int → xM → xO} (hM : Cm l G y cc' nL' ret' d' 3 kc' ks' vs M Fc) (B : xYS y cc' nL' ret' n) (w1 : ∀ U, xK G U → va_Nw (.methodLinkNest u.1 idx y RX11) U) (hn : vs.length = n) (hdl : d' < d) (htab : u.2.2.2.2.1 = []) (hW : (st.map Value.category).sum ≤ 8) (hd : decode u.2.1 pc = .ok (.invokestatic idx, 3)) (hp : pc' = pc + 3) (hs0 : st0 = vs.reverse ++ st) (hkc : kc + kc' ≤ kc0) (hks : ks + ks' ≤ ks0) (K : ∀ z M', True → xcan M' → Gv l G u d t kc ks pc' ls (st) M' (k9 z M')) : Gv l G u d t kc0 ks0 pc ls st0 M (xb Fc k9) := by
  subst hp; exact xg_callSN (by first | decide | omega) hM B w1 hn hdl htab hW hd hs0 hkc hks (fun z M' hz hM' => K z M' hz hM')
theorem xg_callSN_R {n d' nL' kc' ks' idx : Nat} {y : MethodName} {cc' : ByteArray} {ret' : Option FieldType} {vs st0 : List Value} {Fc : xO} {k9 : Int → xM → xO} {cr : Nat} (hM : Cm l G y cc' nL' ret' d' (cr + 10) kc' ks' vs M Fc) (B : xYS y cc' nL' ret' n) (w1 : ∀ U, xK G U → va_Nw (.methodLinkNest u.1 idx y RX11) U) (hn : vs.length = n) (hdl : d' < d) (htab : u.2.2.2.2.1 = []) (hW : (st.map Value.category).sum ≤ 8) (hd : decode u.2.1 pc = .ok (.invokestatic idx, 3)) (hp : pc' = pc + 3) (hs0 : st0 = vs.reverse ++ st) (hkc : kc + kc' ≤ kc0) (hks : ks + ks' ≤ ks0) (K : ∀ z M', xOb cr z.toNat → xcan M' → Gv l G u d t kc ks pc' ls (.ref z.toNat :: st) M' (k9 z M')) : Gv l G u d t kc0 ks0 pc ls st0 M (xb Fc k9) := by
  subst hp; exact xg_callSN (by first | decide | omega) hM B w1 hn hdl htab hW hd hs0 hkc hks (fun z M' hz hM' => K z M' hz hM')
theorem xg_callVC {n d' nL' kc' ks' t' idx : Nat} {y : MethodName} {cc' : ByteArray} {ret' : Option FieldType} {vs st0 : List Value} {Fc : xO} {k9 : Int → xM → xO} {b ci N : Nat} {C : String} {T : u_T} {kx9 : Nat → xM → xO}
    (h5 : t' ≠ 5) (hM : Cm l G y cc' nL' ret' d' t' kc' ks' (.ref b :: vs) M Fc) (B : xYV y cc' nL' ret' n) (hC : xCl ci C T N) (hb0 : xOb ci b) (hyc : y.cls = C) (w1 : Cond.methodLink u.1 idx y ∈ xw) (hn : vs.length = n) (hdl : d' < d)
    (hW : (st.map Value.category).sum ≤ 8) (hd : decode u.2.1 pc = .ok (.invokevirtual idx, 3)) (hs0 : st0 = vs.reverse ++ .ref b :: st) (hkc : kc + kc' ≤ kc0) (hks : ks + ks' ≤ ks0)
    (K : ∀ z M', xRt t' z → xcan M' → Gv l G u d t kc ks (pc + 3) ls ((xvo t' z).toList ++ st) M' (k9 z M'))
    (KX : ∀ e M', e < 3 → xcan M' → Gx l G u d t kc ks pc ls st M' e (kx9 e M')) : Gv l G u d t kc0 ks0 pc ls st0 M (xbc Fc k9 kx9) := by
  intro r h
  cases hF : Fc with
  | none => rw [hF] at h; cases h
  | some r0 =>
    obtain ⟨r1, M1⟩ := r0
    rw [hF] at h
    refine xv_callV (hM _ hF) hC (xlg_o hb0 hC.2.2.2.2.2) hyc w1 B.1 (hyc ▸ B.2.1) (hyc ▸ B.2.2.1) B.2.2.2.1 B.2.2.2.2.1 hn hdl B.2.2.2.2.2 hW hd hs0 hkc hks (xkp_of h5) ?_ ?_
    · rintro v σ' ⟨z, e1, rfl, hz, q5⟩ -
      obtain ⟨rfl, hM1⟩ := q5.resolve_left h5
      dsimp only at e1; subst e1
      exact K z M1 hz hM1 r h
    · rintro k σ' ⟨e1, q5⟩ hk -
      obtain ⟨rfl, hM1⟩ := q5.resolve_left h5
      dsimp only at e1; subst e1
      exact KX k M1 hk hM1 r h
theorem xpass1 {e a b c d9 : Nat} (h : d9 ≠ 0) (i : Nat) (w : Cond.classLink u.1 d9 (xen i) ∈ xw) (g : e = 1 ∧ i = 0 ∨ e = 2 ∧ i = 0 ∨ e = 2 ∧ i = 1) : ∀ z ∈ tableOf [(a, b, c, d9)], z.catchType ≠ 0 ∧ ∃ i : Nat, Cond.classLink u.1 z.catchType (xen i) ∈ xw ∧ (e = 1 ∧ i = 0 ∨ e = 2 ∧ i = 0 ∨ e = 2 ∧ i = 1) := by
  intro z hz
  simp only [tableOf, List.map_cons, List.map_nil, List.mem_cons, List.not_mem_nil, or_false] at hz
  subst hz
  exact ⟨h, i, w, g⟩
theorem xpass2 {e a b c d9 a' b' c' d' : Nat} (h : d9 ≠ 0) (i : Nat) (w : Cond.classLink u.1 d9 (xen i) ∈ xw) (g : e = 1 ∧ i = 0 ∨ e = 2 ∧ i = 0 ∨ e = 2 ∧ i = 1) (h' : d' ≠ 0) (i' : Nat) (w' : Cond.classLink u.1 d' (xen i') ∈ xw) (g' : e = 1 ∧ i' = 0 ∨ e = 2 ∧ i' = 0 ∨ e = 2 ∧ i' = 1) : ∀ z ∈ tableOf [(a, b, c, d9), (a', b', c', d')], z.catchType ≠ 0 ∧ ∃ i : Nat, Cond.classLink u.1 z.catchType (xen i) ∈ xw ∧ (e = 1 ∧ i = 0 ∨ e = 2 ∧ i = 0 ∨ e = 2 ∧ i = 1) := by
  intro z hz
  simp only [tableOf, List.map_cons, List.map_nil, List.mem_cons, List.not_mem_nil, or_false] at hz
  rcases hz with rfl | rfl
  · exact ⟨h, i, w, g⟩
  · exact ⟨h', i', w', g'⟩
theorem xgx_none {e : Nat} : Gx l G u d t kc ks pc ls st M e none := fun _ h => by cases h
theorem xgx_c0 {A B C : xO} (h : Gx l G u d t kc ks pc ls st M 0 A) : Gx l G u d t kc ks pc ls st M 0 (xcs 0 A B C) := h
theorem xgx_c1 {A B C : xO} (h : Gx l G u d t kc ks pc ls st M 1 B) : Gx l G u d t kc ks pc ls st M 1 (xcs 1 A B C) := h
theorem xgx_c2 {A B C : xO} (h : Gx l G u d t kc ks pc ls st M 2 C) : Gx l G u d t kc ks pc ls st M 2 (xcs 2 A B C) := h
theorem xsb_0 {b : List (Option Value)} : xsb [] b := trivial
theorem xsb_n {a b : List (Option Value)} {w : Option Value} (h : xsb a b) : xsb (none :: a) (w :: b) := h
theorem xsb_s {a b : List (Option Value)} {v : Value} (h : xsb a b) : xsb (some v :: a) (some v :: b) := ⟨rfl, h⟩
theorem xg_copyl {idx c0 c1 n0' n1' : Nat} {z : Int} {k9 : xM → xO} (w1 : Cond.methodLink u.1 idx arraycopyName ∈ xw) (w2 : Cond.native arraycopyName ∈ xw) (w3 : Cond.static arraycopyName ∈ xw) (w4 : Cond.initialized "java/lang/System" ∈ xw) (h0 : xAn 1 n0' c0) (h1 : xAn 1 n1' c1)
    (hd : decode u.2.1 pc = .ok (.invokestatic idx, 3)) (hp : pc' = pc + 3) (hW : (st.map Value.category).sum ≤ 8) (hM : xcan M) (K : ∀ M', xcan M' → Gv l G u d t kc ks pc' ls st M' (k9 M')) : Gv l G u d t kc ks pc ls (iv z :: iv 0 :: .ref c1 :: iv 0 :: .ref c0 :: st) M (xcopy c0 n0' c1 n1' z M k9) := by
  subst hp; intro r h
  unfold xcopy at h
  by_cases q : 0 ≤ z ∧ z ≤ (n0' : Int) ∧ z ≤ (n1' : Int) ∧ z < 2147483648
  · rw [if_pos q] at h; exact xv_copyl w1 w2 w3 w4 (xlg_a h0) (xlg_a h1) (Int.toNat_of_nonneg q.1).symm (by omega) (by omega) (by omega) hd hW (K _ (hM.cpy h0 h1) r h)
  · rw [if_neg q] at h; cases h
theorem xgx_out {e : Nat} (htab : u.2.2.2.2.1 = []) (he : e < 3) (hM : xcan M) : Gx l G u d t kc ks pc ls st M e (xthr e M) := by
  intro r h; cases h
  exact xx_out he htab ⟨rfl, Or.inr ⟨rfl, hM⟩⟩
theorem xgx_catch {e : Nat} {pre suf : List ExceptionTableEntry} {x : ExceptionTableEntry} {j ln : Nat} (hsplit : u.2.2.2.2.1 = pre ++ x :: suf)
    (hpass : ∀ z ∈ pre, z.catchType ≠ 0 ∧ ∃ i : Nat, Cond.classLink u.1 z.catchType (xen i) ∈ xw ∧ (e = 1 ∧ i = 0 ∨ e = 2 ∧ i = 0 ∨ e = 2 ∧ i = 1)) (hk : e = 0 ∨ e = 1 ∨ e = 2) (hx0 : covers x pc = true) (hx1 : x.catchType ≠ 0)
    (w1 : Cond.classLink u.1 x.catchType (xen e) ∈ xw) (hj : j < u.2.2.1) (hd : (decode u.2.1 x.handlerPc = .ok (.astore j, 2) ∧ ln = 2) ∨ ∃ f : Fin 4, (f : Nat) = j ∧ decode u.2.1 x.handlerPc = .ok (.astore_n f, 1) ∧ ln = 1)
    (K : Gv l G u d t kc ks (x.handlerPc + ln) [] [] M F) : Gx l G u d t kc ks pc ls st M e F := fun r h => xx_catch (ia := .return_) hsplit hpass hk hx0 hx1 w1 hj hd (K r h)
theorem xg_throw0 (hu : u.1 = RX11) (htab0 : u.2.2.2.2.1 = []) (w1 : Cond.classLink RX11 409 "java/lang/IndexOutOfBoundsException" ∈ xw) (w2 : Cond.initialized "java/lang/IndexOutOfBoundsException" ∈ xw)
    (d0 : decode u.2.1 pc = .ok (.new 409, 3)) (d3 : decode u.2.1 (pc + 3) = .ok (.dup, 1)) (d4 : decode u.2.1 (pc + 4) = .ok (.ldc_w 411, 3)) (d6 : decode u.2.1 (pc + 7) = .ok (.invokespecial 413, 3)) (d9 : decode u.2.1 (pc + 10) = .ok (.athrow, 1))
    (hW : (st.map Value.category).sum ≤ 8) (hkc : 1 ≤ kc) (hks : 6 ≤ ks) (hM : xcan M) : Gv l G u d t kc ks pc ls st M (xthr 0 M) := by
  intro r h; cases h
  exact xv_throw0 hu htab0 w1 w2 d0 d3 d4 d6 d9 hW hkc hks ⟨rfl, Or.inr ⟨rfl, hM⟩⟩
theorem xg_throw1 (hu : u.1 = RX11) (htab0 : u.2.2.2.2.1 = []) (w1 : Cond.classLink RX11 416 "java/lang/IllegalArgumentException" ∈ xw) (w2 : Cond.initialized "java/lang/IllegalArgumentException" ∈ xw)
    (d0 : decode u.2.1 pc = .ok (.new 416, 3)) (d3 : decode u.2.1 (pc + 3) = .ok (.dup, 1)) (d4 : decode u.2.1 (pc + 4) = .ok (.ldc_w 418, 3)) (d6 : decode u.2.1 (pc + 7) = .ok (.invokespecial 420, 3)) (d9 : decode u.2.1 (pc + 10) = .ok (.athrow, 1))
    (hW : (st.map Value.category).sum ≤ 8) (hkc : 1 ≤ kc) (hks : 6 ≤ ks) (hM : xcan M) : Gv l G u d t kc ks pc ls st M (xthr 1 M) := by
  intro r h; cases h
  exact xv_throw1 hu htab0 w1 w2 d0 d3 d4 d6 d9 hW hkc hks ⟨rfl, Or.inr ⟨rfl, hM⟩⟩
theorem xg_throw2 (hu : u.1 = RX11) (htab0 : u.2.2.2.2.1 = []) (w1 : Cond.classLink RX11 421 "java/lang/IllegalStateException" ∈ xw) (w2 : Cond.initialized "java/lang/IllegalStateException" ∈ xw)
    (d0 : decode u.2.1 pc = .ok (.new 421, 3)) (d3 : decode u.2.1 (pc + 3) = .ok (.dup, 1)) (d4 : decode u.2.1 (pc + 4) = .ok (.ldc_w 423, 3)) (d6 : decode u.2.1 (pc + 7) = .ok (.invokespecial 425, 3)) (d9 : decode u.2.1 (pc + 10) = .ok (.athrow, 1))
    (hW : (st.map Value.category).sum ≤ 8) (hkc : 1 ≤ kc) (hks : 6 ≤ ks) (hM : xcan M) : Gv l G u d t kc ks pc ls st M (xthr 2 M) := by
  intro r h; cases h
  exact xv_throw2 hu htab0 w1 w2 d0 d3 d4 d6 d9 hW hkc hks ⟨rfl, Or.inr ⟨rfl, hM⟩⟩
theorem xpad_get (vs : List Value) (m : Nat) (i : Nat) (v : Value) (h : (xsl vs ++ List.replicate m none)[i]? = some (some v)) : (xsl vs)[i]? = some (some v) := by
  rcases Nat.lt_or_ge i (xsl vs).length with q | q
  · rw [List.getElem?_append_left q] at h; exact h
  · rw [List.getElem?_append_right q] at h
    have := List.mem_of_getElem? h
    rw [List.mem_replicate] at this
    cases this.2
theorem xcm_of {y : MethodName} {cc : ByteArray} {nL : Nat} {ret : Option FieldType} {vs : List Value} (m : Nat) (hl : l.stackTraces = false) (hu : u = (y.cls, cc, nL, ret, [], y.name)) (hy : plainName y.cls = true) (hlen : (lg_sl vs).length ≤ nL) (hls : xsl vs ++ List.replicate m none = ls)
    (h : Gv l G u d t kc ks 0 ls [] M F) : Cm l G y cc nL ret d t kc ks vs M F := by
  subst hu; subst hls
  exact fun r hr => xct_of hl hy hlen (xpad_get vs m) (h r hr)
theorem xcmw_of {y : MethodName} {cc : ByteArray} {nL : Nat} {ret : Option FieldType} {hh : List (Nat × Nat × Nat × Nat)} {vs : List Value} (m : Nat) (hl : l.stackTraces = false) (hu : u = (y.cls, cc, nL, ret, tableOf hh, y.name)) (hy : plainName y.cls = true) (hlen : (lg_sl vs).length ≤ nL) (hls : xsl vs ++ List.replicate m none = ls)
    (h : Gv l G u d t kc ks 0 ls [] M F) : CmW l G y cc nL ret hh d t kc ks vs M F := by
  subst hu; subst hls
  exact fun r hr => xct_ofW hl hy hlen (xpad_get vs m) (h r hr)
theorem xg_callVC_I {n d' nL' kc' ks' idx : Nat} {y : MethodName} {cc' : ByteArray} {ret' : Option FieldType} {vs st0 : List Value} {Fc : xO} {k9 : Int → xM → xO} {b ci N : Nat} {C : String} {T : u_T} {kx9 : Nat → xM → xO} (hM : Cm l G y cc' nL' ret' d' 0 kc' ks' (.ref b :: vs) M Fc) (B : xYV y cc' nL' ret' n) (hC : xCl ci C T N) (hb0 : xOb ci b) (hyc : y.cls = C) (w1 : Cond.methodLink u.1 idx y ∈ xw) (hn : vs.length = n) (hdl : d' < d) (hW : (st.map Value.category).sum ≤ 8) (hd : decode u.2.1 pc = .ok (.invokevirtual idx, 3)) (hp : pc' = pc + 3) (hs0 : st0 = vs.reverse ++ .ref b :: st) (hkc : kc + kc' ≤ kc0) (hks : ks + ks' ≤ ks0) (K : ∀ z M', R32 z → xcan M' → Gv l G u d t kc ks pc' ls (iv z :: st) M' (k9 z M')) (KX : ∀ e M', e < 3 → xcan M' → Gx l G u d t kc ks pc ls st M' e (kx9 e M')) : Gv l G u d t kc0 ks0 pc ls st0 M (xbc Fc k9 kx9) := by
  subst hp; exact xg_callVC (by first | decide | omega) hM B hC hb0 hyc w1 hn hdl hW hd hs0 hkc hks (fun z M' hz hM' => K z M' hz hM') KX
theorem xg_callVC_Z {n d' nL' kc' ks' idx : Nat} {y : MethodName} {cc' : ByteArray} {ret' : Option FieldType} {vs st0 : List Value} {Fc : xO} {k9 : Int → xM → xO} {b ci N : Nat} {C : String} {T : u_T} {kx9 : Nat → xM → xO} (hM : Cm l G y cc' nL' ret' d' 1 kc' ks' (.ref b :: vs) M Fc) (B : xYV y cc' nL' ret' n) (hC : xCl ci C T N) (hb0 : xOb ci b) (hyc : y.cls = C) (w1 : Cond.methodLink u.1 idx y ∈ xw) (hn : vs.length = n) (hdl : d' < d) (hW : (st.map Value.category).sum ≤ 8) (hd : decode u.2.1 pc = .ok (.invokevirtual idx, 3)) (hp : pc' = pc + 3) (hs0 : st0 = vs.reverse ++ .ref b :: st) (hkc : kc + kc' ≤ kc0) (hks : ks + ks' ≤ ks0) (K : ∀ z M', B01 z → xcan M' → Gv l G u d t kc ks pc' ls (iv z :: st) M' (k9 z M')) (KX : ∀ e M', e < 3 → xcan M' → Gx l G u d t kc ks pc ls st M' e (kx9 e M')) : Gv l G u d t kc0 ks0 pc ls st0 M (xbc Fc k9 kx9) := by
  subst hp; exact xg_callVC (by first | decide | omega) hM B hC hb0 hyc w1 hn hdl hW hd hs0 hkc hks (fun z M' hz hM' => K z M' hz hM') KX
theorem xg_callVC_J {n d' nL' kc' ks' idx : Nat} {y : MethodName} {cc' : ByteArray} {ret' : Option FieldType} {vs st0 : List Value} {Fc : xO} {k9 : Int → xM → xO} {b ci N : Nat} {C : String} {T : u_T} {kx9 : Nat → xM → xO} (hM : Cm l G y cc' nL' ret' d' 2 kc' ks' (.ref b :: vs) M Fc) (B : xYV y cc' nL' ret' n) (hC : xCl ci C T N) (hb0 : xOb ci b) (hyc : y.cls = C) (w1 : Cond.methodLink u.1 idx y ∈ xw) (hn : vs.length = n) (hdl : d' < d) (hW : (st.map Value.category).sum ≤ 8) (hd : decode u.2.1 pc = .ok (.invokevirtual idx, 3)) (hp : pc' = pc + 3) (hs0 : st0 = vs.reverse ++ .ref b :: st) (hkc : kc + kc' ≤ kc0) (hks : ks + ks' ≤ ks0) (K : ∀ z M', R64 z → xcan M' → Gv l G u d t kc ks pc' ls (jv z :: st) M' (k9 z M')) (KX : ∀ e M', e < 3 → xcan M' → Gx l G u d t kc ks pc ls st M' e (kx9 e M')) : Gv l G u d t kc0 ks0 pc ls st0 M (xbc Fc k9 kx9) := by
  subst hp; exact xg_callVC (by first | decide | omega) hM B hC hb0 hyc w1 hn hdl hW hd hs0 hkc hks (fun z M' hz hM' => K z M' hz hM') KX
theorem xg_callVC_N {n d' nL' kc' ks' idx : Nat} {y : MethodName} {cc' : ByteArray} {ret' : Option FieldType} {vs st0 : List Value} {Fc : xO} {k9 : Int → xM → xO} {b ci N : Nat} {C : String} {T : u_T} {kx9 : Nat → xM → xO} (hM : Cm l G y cc' nL' ret' d' 3 kc' ks' (.ref b :: vs) M Fc) (B : xYV y cc' nL' ret' n) (hC : xCl ci C T N) (hb0 : xOb ci b) (hyc : y.cls = C) (w1 : Cond.methodLink u.1 idx y ∈ xw) (hn : vs.length = n) (hdl : d' < d) (hW : (st.map Value.category).sum ≤ 8) (hd : decode u.2.1 pc = .ok (.invokevirtual idx, 3)) (hp : pc' = pc + 3) (hs0 : st0 = vs.reverse ++ .ref b :: st) (hkc : kc + kc' ≤ kc0) (hks : ks + ks' ≤ ks0) (K : ∀ z M', True → xcan M' → Gv l G u d t kc ks pc' ls (st) M' (k9 z M')) (KX : ∀ e M', e < 3 → xcan M' → Gx l G u d t kc ks pc ls st M' e (kx9 e M')) : Gv l G u d t kc0 ks0 pc ls st0 M (xbc Fc k9 kx9) := by
  subst hp; exact xg_callVC (by first | decide | omega) hM B hC hb0 hyc w1 hn hdl hW hd hs0 hkc hks (fun z M' hz hM' => K z M' hz hM') KX
theorem xg_callVC_R {n d' nL' kc' ks' idx : Nat} {y : MethodName} {cc' : ByteArray} {ret' : Option FieldType} {vs st0 : List Value} {Fc : xO} {k9 : Int → xM → xO} {b ci N : Nat} {C : String} {T : u_T} {kx9 : Nat → xM → xO} {cr : Nat} (hM : Cm l G y cc' nL' ret' d' (cr + 10) kc' ks' (.ref b :: vs) M Fc) (B : xYV y cc' nL' ret' n) (hC : xCl ci C T N) (hb0 : xOb ci b) (hyc : y.cls = C) (w1 : Cond.methodLink u.1 idx y ∈ xw) (hn : vs.length = n) (hdl : d' < d) (hW : (st.map Value.category).sum ≤ 8) (hd : decode u.2.1 pc = .ok (.invokevirtual idx, 3)) (hp : pc' = pc + 3) (hs0 : st0 = vs.reverse ++ .ref b :: st) (hkc : kc + kc' ≤ kc0) (hks : ks + ks' ≤ ks0) (K : ∀ z M', xOb cr z.toNat → xcan M' → Gv l G u d t kc ks pc' ls (.ref z.toNat :: st) M' (k9 z M')) (KX : ∀ e M', e < 3 → xcan M' → Gx l G u d t kc ks pc ls st M' e (kx9 e M')) : Gv l G u d t kc0 ks0 pc ls st0 M (xbc Fc k9 kx9) := by
  subst hp; exact xg_callVC (by first | decide | omega) hM B hC hb0 hyc w1 hn hdl hW hd hs0 hkc hks (fun z M' hz hM' => K z M' hz hM') KX
theorem xln_r (c : Nat) : R32 ((xln c : Nat) : Int) := by have := xln_lt c; omega
end XGV
