-- the invariants behind a split
def AB (A : Int) : Prop := A = 1 ∨ A = 2 ∨ A = 3
theorem sp_v {A B x : Int} (hA : AB A) (hB : AB B) (h0 : 0 ≤ x) (h1 : x ≤ 1000000000000) : sSp A B x = x * A / B ∧ 0 ≤ sSp A B x ∧ sSp A B x ≤ 3 * x := by
  have e : sSp A B x = x * A / B := by
    have m0 : 0 ≤ x * A := Int.mul_nonneg h0 (by rcases hA with h | h | h <;> omega)
    have m1 : x * A ≤ 3000000000000 := by rcases hA with h | h | h <;> subst h <;> omega
    unfold sSp
    rw [w64_i (by omega) (by omega), Int.tdiv_eq_ediv_of_nonneg m0]
  rw [e]
  refine ⟨rfl, ?_⟩
  rcases hA with h | h | h <;> rcases hB with g | g | g <;> subst h <;> subst g <;> omega
theorem sp_ad {A B x y : Int} (hA : AB A) (hB : AB B) (h0 : 0 ≤ x) (h1 : 0 ≤ y) (h2 : x + y ≤ 1000000000000) : sSp A B x + sSp A B y ≤ sSp A B (x + y) := by
  rw [(sp_v hA hB h0 (by omega)).1, (sp_v hA hB h1 (by omega)).1, (sp_v hA hB (show 0 ≤ x + y by omega) h2).1]
  rcases hA with h | h | h <;> rcases hB with g | g | g <;> subst h <;> subst g <;> omega
theorem sp_mo {A B x y : Int} (hA : AB A) (hB : AB B) (h0 : 0 ≤ x) (h1 : x ≤ y) (h2 : y ≤ 1000000000000) : sSp A B x ≤ sSp A B y := by
  rw [(sp_v hA hB h0 (by omega)).1, (sp_v hA hB (show 0 ≤ y by omega) h2).1]
  rcases hA with h | h | h <;> rcases hB with g | g | g <;> subst h <;> subst g <;> omega
theorem sp_0 {A B : Int} : sSp A B 0 = 0 := by unfold sSp; rw [Int.zero_mul]; show Int.tdiv 0 B = 0; exact Int.zero_tdiv B
theorem sr_sm {f : Nat → Int} : ∀ k a, sm f (a + k) = sm f a + sr f k a
  | 0, a => by show sm f a = sm f a + 0; omega
  | k + 1, a => by
    have e1 : sr f (k + 1) a = f a + sr f k (a + 1) := rfl
    have e2 : sm f (a + 1) = sm f a + f a := rfl
    rw [e1, show a + (k + 1) = a + 1 + k by omega, sr_sm k (a + 1), e2]; omega
theorem sm_addf {f g : Nat → Int} : ∀ n, sm (fun a => f a + g a) n = sm f n + sm g n
  | 0 => rfl
  | n + 1 => by
    have ih := sm_addf (f := f) (g := g) n
    show sm (fun a => f a + g a) n + (f n + g n) = (sm f n + f n) + (sm g n + g n)
    omega
theorem sm_le {f g : Nat → Int} : ∀ n, (∀ a, a < n → f a ≤ g a) → sm f n ≤ sm g n
  | 0, _ => Int.le_refl 0
  | n + 1, h => by
    have ih := sm_le n (fun a ha => h a (by omega))
    have := h n (by omega)
    show sm f n + f n ≤ sm g n + g n
    omega
theorem sm_m3 {f : Nat → Int} : ∀ n, sm (fun a => 3 * f a) n = 3 * sm f n
  | 0 => rfl
  | n + 1 => by
    have ih := sm_m3 (f := f) n
    show sm (fun a => 3 * f a) n + 3 * f n = 3 * (sm f n + f n)
    omega
theorem sm_zt {f : Nat → Int} {m : Nat} : ∀ n, m ≤ n → (∀ a, m ≤ a → a < n → f a = 0) → sm f n = sm f m
  | 0, hm, _ => by rw [show m = 0 by omega]
  | n + 1, hm, h => by
    by_cases z : m = n + 1
    · rw [z]
    · have ih := sm_zt n (by omega) (fun a x y => h a x (by omega))
      show sm f n + f n = _
      rw [h n (by omega) (by omega), ih]; omega
theorem sm_z0 {f : Nat → Int} (n : Nat) (h : ∀ a, a < n → f a = 0) : sm f n = 0 := sm_zt (m := 0) n (by omega) (fun a _ y => h a y)
/-- sums over what is pooled, account by account -/
theorem pool_x {w : Nat → Int} {nA : Nat} (hP : PK w nA) (g : Nat → Int) : ∀ n, n ≤ nA → sm (fun c => if w (10 + c) = 1 then 0 else sm (fun k => if sUn w c k then g k else 0) nA) n = sm (fun k => if w (10 + k) = 1 ∧ ro w k < n then g k else 0) nA
  | 0, _ => by
    rw [sm_z0 nA (fun k _ => if_neg (fun z => absurd z.2 (Nat.not_lt_zero _)))]; rfl
  | n + 1, hn => by
    have h0 := hP.1
    have ih := pool_x hP g n (by omega)
    have e : sm (fun k => if w (10 + k) = 1 ∧ ro w k < n + 1 then g k else 0) nA = sm (fun k => if w (10 + k) = 1 ∧ ro w k < n then g k else 0) nA + (if w (10 + n) = 1 then 0 else sm (fun k => if sUn w n k then g k else 0) nA) := by
      by_cases z : w (10 + n) = 1
      · rw [if_pos z, Int.add_zero]
        refine sm_eq nA (fun k hk => ?_)
        have r := hP.rf (a := k) (by omega)
        have y : ro w k ≠ n := fun y => by rw [y, z] at r; exact absurd r.1 (by decide)
        show (if w (10 + k) = 1 ∧ ro w k < n + 1 then g k else 0) = (if w (10 + k) = 1 ∧ ro w k < n then g k else 0)
        by_cases x : w (10 + k) = 1 ∧ ro w k < n
        · rw [if_pos x, if_pos ⟨x.1, by omega⟩]
        · rw [if_neg x, if_neg (fun v => x ⟨v.1, by omega⟩)]
      · rw [if_neg z, ← sm_addf]
        refine sm_eq nA (fun k hk => ?_)
        show (if w (10 + k) = 1 ∧ ro w k < n + 1 then g k else 0) = (if w (10 + k) = 1 ∧ ro w k < n then g k else 0) + (if sUn w n k = true then g k else 0)
        rw [hP.un (show k < 10 by omega)]
        by_cases x : w (10 + k) = 1
        · rw [decide_eq_true x, Bool.and_true]
          by_cases y : ro w k = n
          · rw [decide_eq_true y, if_pos ⟨x, by omega⟩, if_neg (fun v => absurd v.2 (by omega)), if_t]; omega
          · rw [decide_eq_false y, if_f]
            by_cases v : ro w k < n
            · rw [if_pos ⟨x, by omega⟩, if_pos ⟨x, v⟩]; omega
            · rw [if_neg (fun u => v (by omega)), if_neg (fun u => v u.2)]; omega
        · rw [decide_eq_false x, Bool.and_false, if_f, if_neg (fun u => x u.1), if_neg (fun u => x u.1)]; omega
    rw [e, ← ih]; rfl
theorem pool_all {w : Nat → Int} {nA : Nat} (hP : PK w nA) (g : Nat → Int) : sm (fun c => if w (10 + c) = 1 then 0 else sm (fun k => if sUn w c k then g k else 0) nA) nA = sm (fun k => if w (10 + k) = 1 then g k else 0) nA := by
  rw [pool_x hP g nA (Nat.le_refl _)]
  refine sm_eq nA (fun k hk => ?_)
  have h0 := hP.1
  have r := (hP.rf (a := k) (by omega)).2.1
  show (if w (10 + k) = 1 ∧ ro w k < nA then g k else 0) = (if w (10 + k) = 1 then g k else 0)
  by_cases z : w (10 + k) = 1
  · rw [if_pos ⟨z, r.2 hk⟩, if_pos z]
  · rw [if_neg (fun v => z v.1), if_neg z]
theorem sAl_x {w : Nat → Int} {s c : Nat} (hf : ∀ a : Nat, a < 10 → 0 ≤ w (100 + 4 * a + s) ∧ w (100 + 4 * a + s) ≤ 59049000000) : ∀ (k i : Nat) (x : Int), i + k ≤ 10 → 0 ≤ x → x + (k : Int) * 59049000000 ≤ 1000000000000 → sAl w s c k i x = x + sr (fun j => if sUn w c j then w (100 + 4 * j + s) else 0) k i := by
  intro k
  induction k with
  | zero => intro i x _ _ _; exact (Int.add_zero x).symm
  | succ k ih =>
    intro i x hi h0 h1
    have hfi := hf i (by omega)
    have e1 : sr (fun j => if sUn w c j then w (100 + 4 * j + s) else 0) (k + 1) i = (if sUn w c i then w (100 + 4 * i + s) else 0) + sr (fun j => if sUn w c j then w (100 + 4 * j + s) else 0) k (i + 1) := rfl
    have e2 : sAl w s c (k + 1) i x = sAl w s c k (i + 1) (if sUn w c i then w64 (x + w (100 + 4 * i + s)) else x) := rfl
    rw [e1, e2]
    cases sUn w c i
    · rw [if_f, if_f, ih (i + 1) x (by omega) h0 (by omega)]; omega
    · rw [if_t, if_t, w64_i (by omega) (by omega), ih (i + 1) _ (by omega) (by omega) (by omega)]; omega
theorem sGi_x {A B : Int} (hA : AB A) (hB : AB B) {w : Nat → Int} {s c : Nat} (hf : ∀ a : Nat, a < 10 → 0 ≤ w (100 + 4 * a + s) ∧ w (100 + 4 * a + s) ≤ 59049000000) : ∀ (k i : Nat) (x : Int), i + k ≤ 10 → 0 ≤ x → x + (k : Int) * 200000000000 ≤ 3000000000000 → sGi A B w s c k i x = x + sr (fun j => if sUn w c j then sSp A B (w (100 + 4 * j + s)) else 0) k i := by
  intro k
  induction k with
  | zero => intro i x _ _ _; exact (Int.add_zero x).symm
  | succ k ih =>
    intro i x hi h0 h1
    have hfi := hf i (by omega)
    have v := sp_v hA hB hfi.1 (by omega)
    have e1 : sr (fun j => if sUn w c j then sSp A B (w (100 + 4 * j + s)) else 0) (k + 1) i = (if sUn w c i then sSp A B (w (100 + 4 * i + s)) else 0) + sr (fun j => if sUn w c j then sSp A B (w (100 + 4 * j + s)) else 0) k (i + 1) := rfl
    rw [e1, sGi_s]
    cases sUn w c i
    · rw [if_f, if_f, ih (i + 1) x (by omega) h0 (by omega)]; omega
    · rw [if_t, if_t, w64_i (by omega) (by omega), ih (i + 1) _ (by omega) (by omega) (by omega)]; omega
/-- what holdings become -/
theorem split_h {w : Nat → Int} {nA s : Nat} {A B : Int} (hA : AB A) (hB : AB B) (hP : PK w nA) (hf : ∀ a : Nat, a < 10 → 0 ≤ w (100 + 4 * a + s) ∧ w (100 + 4 * a + s) ≤ 59049000000) : (∀ a, a < nA → sSp A B (w (100 + 4 * a + s)) ≤ sNh A B w s nA a) ∧ sm (fun a => sNh A B w s nA a) nA = sOu A B w s nA nA 0 0 ∧ sOu A B w s nA nA 0 0 ≤ 3 * sm (fun a => w (100 + 4 * a + s)) nA := by
  have h0 := hP.1
  have eT : ∀ c, c < 10 → sTo w s nA c = w (100 + 4 * c + s) + sm (fun j => if sUn w c j then w (100 + 4 * j + s) else 0) nA := fun c hc => by
    unfold sTo
    have hc2 := hf c hc
    rw [sAl_x hf nA 0 _ (by omega) hc2.1 (by omega)]
    have q := sr_sm (f := fun j => if sUn w c j then w (100 + 4 * j + s) else 0) nA 0
    rw [Nat.zero_add] at q
    rw [q]; show _ = _ + (0 + _); omega
  have eG : ∀ c, c < 10 → sGi A B w s c nA 0 0 = sm (fun j => if sUn w c j then sSp A B (w (100 + 4 * j + s)) else 0) nA := fun c hc => by
    rw [sGi_x hA hB hf nA 0 0 (by omega) (by omega) (by omega)]
    have q := sr_sm (f := fun j => if sUn w c j then sSp A B (w (100 + 4 * j + s)) else 0) nA 0
    rw [Nat.zero_add] at q
    rw [q]; rfl
  -- the part of a pool
  have sup : ∀ c, c < 10 → ∀ n, n ≤ 10 → 0 ≤ sm (fun j => if sUn w c j then w (100 + 4 * j + s) else 0) n ∧ sm (fun j => if sUn w c j then w (100 + 4 * j + s) else 0) n ≤ (n : Int) * 59049000000 ∧ 0 ≤ sm (fun j => if sUn w c j then sSp A B (w (100 + 4 * j + s)) else 0) n ∧ sSp A B (w (100 + 4 * c + s)) + sm (fun j => if sUn w c j then sSp A B (w (100 + 4 * j + s)) else 0) n ≤ sSp A B (w (100 + 4 * c + s) + sm (fun j => if sUn w c j then w (100 + 4 * j + s) else 0) n) := by
    intro c hc n
    have hc2 := hf c hc
    induction n with
    | zero =>
      intro _
      have z1 : sm (fun j => if sUn w c j then w (100 + 4 * j + s) else 0) 0 = 0 := rfl
      have z2 : sm (fun j => if sUn w c j then sSp A B (w (100 + 4 * j + s)) else 0) 0 = 0 := rfl
      rw [z1, z2, Int.add_zero, Int.add_zero]; omega
    | succ n ih =>
      intro hn
      obtain ⟨i1, i2, i3, i4⟩ := ih (by omega)
      have hfn := hf n (by omega)
      have v := sp_v hA hB hfn.1 (by omega)
      have z1 : sm (fun j => if sUn w c j then w (100 + 4 * j + s) else 0) (n + 1) = sm (fun j => if sUn w c j then w (100 + 4 * j + s) else 0) n + (if sUn w c n then w (100 + 4 * n + s) else 0) := rfl
      have z2 : sm (fun j => if sUn w c j then sSp A B (w (100 + 4 * j + s)) else 0) (n + 1) = sm (fun j => if sUn w c j then sSp A B (w (100 + 4 * j + s)) else 0) n + (if sUn w c n then sSp A B (w (100 + 4 * n + s)) else 0) := rfl
      rw [z1, z2]
      cases sUn w c n
      · rw [if_f, if_f, Int.add_zero, Int.add_zero]; exact ⟨i1, by omega, i3, i4⟩
      · rw [if_t, if_t]
        have ad := sp_ad hA hB (x := w (100 + 4 * c + s) + sm (fun j => if sUn w c j then w (100 + 4 * j + s) else 0) n) (y := w (100 + 4 * n + s)) (by omega) hfn.1 (by omega)
        rw [Int.add_assoc] at ad
        exact ⟨by omega, by omega, by omega, by omega⟩
  have eN : ∀ a, a < nA → sNh A B w s nA a = (if w (10 + a) = 1 then sSp A B (w (100 + 4 * a + s)) else sSp A B (sTo w s nA a) - sGi A B w s a nA 0 0) := fun a ha => by
    unfold sNh
    split
    · rfl
    · have u := sup a (by omega) nA h0
      have t0 := eT a (by omega)
      have g0 := eG a (by omega)
      have hfa := hf a (by omega)
      have v := sp_v hA hB (x := sTo w s nA a) (by omega) (by omega)
      rw [← t0, ← g0] at u
      have va := sp_v hA hB hfa.1 (by omega)
      rw [w64_i (by omega) (by omega)]
  have eO : ∀ k c x, c + k = nA → 0 ≤ x → x + (k : Int) * 3000000000000 ≤ 100000000000000 → sOu A B w s nA k c x = x + sr (fun c => if w (10 + c) = 1 then 0 else sSp A B (sTo w s nA c)) k c := by
    intro k
    induction k with
    | zero => intro c x _ _ _; exact (Int.add_zero x).symm
    | succ k ih =>
      intro c x hc hx hx2
      have e1 : sr (fun c => if w (10 + c) = 1 then 0 else sSp A B (sTo w s nA c)) (k + 1) c = (if w (10 + c) = 1 then 0 else sSp A B (sTo w s nA c)) + sr (fun c => if w (10 + c) = 1 then 0 else sSp A B (sTo w s nA c)) k (c + 1) := rfl
      have e2 : sOu A B w s nA (k + 1) c x = sOu A B w s nA k (c + 1) (if w (10 + c) = 1 then x else w64 (x + sSp A B (sTo w s nA c))) := rfl
      rw [e1, e2]
      by_cases z : w (10 + c) = 1
      · rw [if_pos z, if_pos z, ih (c + 1) x (by omega) hx (by omega)]; omega
      · have u := sup c (by omega) nA h0
        have t0 := eT c (by omega)
        have hfa := hf c (by omega)
        have v := sp_v hA hB (x := sTo w s nA c) (by omega) (by omega)
        rw [if_neg z, if_neg z, w64_i (by omega) (by omega), ih (c + 1) _ (by omega) (by omega) (by omega)]; omega
  have eO2 : sOu A B w s nA nA 0 0 = sm (fun c => if w (10 + c) = 1 then 0 else sSp A B (sTo w s nA c)) nA := by
    rw [eO nA 0 0 (by omega) (by omega) (by omega)]
    have q := sr_sm (f := fun c => if w (10 + c) = 1 then 0 else sSp A B (sTo w s nA c)) nA 0
    rw [Nat.zero_add] at q
    rw [q]; rfl
  refine ⟨fun a ha => ?_, ?_, ?_⟩
  · rw [eN a ha]
    split
    · exact Int.le_refl _
    · have u := (sup a (by omega) nA h0).2.2.2
      rw [← eT a (by omega), ← eG a (by omega)] at u
      omega
  · rw [eO2]
    have p1 := pool_all hP (fun k => sSp A B (w (100 + 4 * k + s)))
    have e1 : sm (fun a => sNh A B w s nA a) nA + sm (fun c => if w (10 + c) = 1 then 0 else sm (fun k => if sUn w c k then sSp A B (w (100 + 4 * k + s)) else 0) nA) nA = sm (fun c => if w (10 + c) = 1 then 0 else sSp A B (sTo w s nA c)) nA + sm (fun k => if w (10 + k) = 1 then sSp A B (w (100 + 4 * k + s)) else 0) nA := by
      rw [← sm_addf, ← sm_addf]
      refine sm_eq nA (fun a ha => ?_)
      show sNh A B w s nA a + (if w (10 + a) = 1 then 0 else sm (fun k => if sUn w a k then sSp A B (w (100 + 4 * k + s)) else 0) nA) = (if w (10 + a) = 1 then 0 else sSp A B (sTo w s nA a)) + (if w (10 + a) = 1 then sSp A B (w (100 + 4 * a + s)) else 0)
      rw [eN a ha, ← eG a (by omega)]
      by_cases z : w (10 + a) = 1
      · simp only [if_pos z]; omega
      · simp only [if_neg z]; omega
    omega
  · rw [eO2, ← sm_m3]
    have p1 := pool_all hP (fun k => w (100 + 4 * k + s))
    have e1 : sm (fun c => if w (10 + c) = 1 then 0 else sTo w s nA c) nA = sm (fun a => w (100 + 4 * a + s)) nA := by
      have e2 : sm (fun c => if w (10 + c) = 1 then 0 else sTo w s nA c) nA + sm (fun k => if w (10 + k) = 1 then w (100 + 4 * k + s) else 0) nA = sm (fun a => w (100 + 4 * a + s)) nA + sm (fun c => if w (10 + c) = 1 then 0 else sm (fun k => if sUn w c k then w (100 + 4 * k + s) else 0) nA) nA := by
        rw [← sm_addf, ← sm_addf]
        refine sm_eq nA (fun a ha => ?_)
        show (if w (10 + a) = 1 then 0 else sTo w s nA a) + (if w (10 + a) = 1 then w (100 + 4 * a + s) else 0) = w (100 + 4 * a + s) + (if w (10 + a) = 1 then 0 else sm (fun k => if sUn w a k then w (100 + 4 * k + s) else 0) nA)
        by_cases z : w (10 + a) = 1
        · simp only [if_pos z]; omega
        · simp only [if_neg z]; rw [eT a (by omega)]; omega
      omega
    have e3 : sm (fun a => 3 * w (100 + 4 * a + s)) nA = 3 * sm (fun c => if w (10 + c) = 1 then 0 else sTo w s nA c) nA := by rw [sm_m3, e1]
    rw [e3, ← sm_m3]
    refine sm_le nA (fun c hc => ?_)
    show (if w (10 + c) = 1 then 0 else sSp A B (sTo w s nA c)) ≤ 3 * (if w (10 + c) = 1 then 0 else sTo w s nA c)
    by_cases z : w (10 + c) = 1
    · rw [if_pos z, if_pos z]; omega
    · have u := sup c (by omega) nA h0
      have t0 := eT c (by omega)
      have hfa := hf c (by omega)
      have v := sp_v hA hB (x := sTo w s nA c) (by omega) (by omega)
      rw [if_neg z, if_neg z]; omega
theorem Inv0.pk {w : Nat → Int} (h : Inv0 w) {nA : Nat} (hn : w 1540 = (nA : Int)) : PK w nA := by
  have c := h.1.1
  refine ⟨by omega, fun a ha => ?_⟩
  obtain ⟨-, k2, -, -, -, k6, k7⟩ := h.2.1 a ha
  refine ⟨k2, fun z => ?_⟩
  obtain ⟨h1, h2, h3⟩ := k7 z
  have := k6 h1
  exact ⟨by omega, h2, by omega, h3⟩
/-- holdings and loans split, and the event done -/
theorem Inv0.split {w : Nat → Int} (h : Inv0 w) {e s nA nL : Nat} {A B : Int} (he : e < 10) (hl : (e : Int) < w 1546) (hz : w (1130 + e) = 0) (hs : s < 4) (hsl : (s : Int) < w 1541) (hA : AB A) (hB : AB B) (hn : w 1540 = (nA : Int)) (hnl : w 1545 = (nL : Int)) : Inv0 (ups (wSl A B (wD A B w s nA (dBl nA) (dBl nA) (sOu A B w s nA nA 0 0)) s nL) (1130 + e) 1) := by
  obtain ⟨hD, hKQ⟩ := h.done he hl hz
  have hP := h.pk hn
  have h0 := hP.1
  obtain ⟨hC, hAc, hSc, hH, hI, hT, hK, hL, hE⟩ := hD
  have hH0 := h.2.2.2.1
  have kq := KQ_le w
  have kg := KQ_ge w
  have hf : ∀ a : Nat, a < 10 → 0 ≤ w (100 + 4 * a + s) ∧ w (100 + 4 * a + s) ≤ 59049000000 := fun a ha => by
    have := hH0.le ha hs; omega
  obtain ⟨s1, s2, s3⟩ := split_h hA hB hP hf
  have ou := hH0.2 s hs
  have z10 : sm (fun a => w (100 + 4 * a + s)) 10 = sm (fun a => w (100 + 4 * a + s)) nA := sm_zt 10 h0 (fun a x y => (hH0.1 a s y hs).2.2.1 (by omega))
  have vD := fun (j : Nat) (hj : j < 100 ∨ (180 ≤ j ∧ j ≠ 192 + s)) => wD_ne (A := A) (B := B) (w := w) (s := s) (nA := nA) (DH := dBl nA) (DB := dBl nA) (o := sOu A B w s nA nA 0 0) (j := j) hj
  have dBt : ∀ a, a < 10 → dBl nA a = decide (a < nA) := fun a ha => by unfold dBl; rw [decide_eq_true ha, Bool.true_and]
  have vh : ∀ a t, a < 10 → t < 4 → wD A B w s nA (dBl nA) (dBl nA) (sOu A B w s nA nA 0 0) (100 + 4 * a + t) = if t = s ∧ a < nA then sNh A B w s nA a else w (100 + 4 * a + t) := fun a t ha ht => by
    rw [wD_h ha hs ht, dBt a ha]
    by_cases z : a < nA
    · rw [decide_eq_true z]
      by_cases y : t = s
      · rw [if_pos ⟨y, rfl⟩, if_pos ⟨y, z⟩]
      · rw [if_neg (fun v => y v.1), if_neg (fun v => y v.1)]
    · rw [decide_eq_false z, if_neg (fun v => absurd v.2 (by decide)), if_neg (fun v => z v.2)]
  have vb : ∀ a t, a < 10 → t < 4 → wD A B w s nA (dBl nA) (dBl nA) (sOu A B w s nA nA 0 0) (140 + 4 * a + t) = if t = s ∧ a < nA then sSp A B (w (140 + 4 * a + t)) else w (140 + 4 * a + t) := fun a t ha ht => by
    rw [wD_b ha hs ht, dBt a ha]
    by_cases z : a < nA
    · rw [decide_eq_true z]
      by_cases y : t = s
      · rw [if_pos ⟨y, rfl⟩, if_pos ⟨y, z⟩]
      · rw [if_neg (fun v => y v.1), if_neg (fun v => y v.1)]
    · rw [decide_eq_false z, if_neg (fun v => absurd v.2 (by decide)), if_neg (fun v => z v.2)]
  have vo : wD A B w s nA (dBl nA) (dBl nA) (sOu A B w s nA nA 0 0) (192 + s) = sOu A B w s nA nA 0 0 := wD_o hs
  generalize hD1 : wD A B w s nA (dBl nA) (dBl nA) (sOu A B w s nA nA 0 0) = D1 at *
  have vl : ∀ l, l < 20 → wSl A B D1 s nL (990 + l) = if l < nL ∧ w (970 + l) = (s : Int) ∧ 0 ≤ w (990 + l) then sSp A B (w (990 + l)) else w (990 + l) := fun l hl2 => by
    by_cases z : l < nL
    · rw [wSl_v z, vD _ (by omega), vD _ (by omega)]
      by_cases y : w (970 + l) = (s : Int) ∧ 0 ≤ w (990 + l)
      · rw [if_pos y, if_pos ⟨z, y⟩]
      · rw [if_neg y, if_neg (fun v => y v.2)]
    · rw [wSl_ne (by omega), vD _ (by omega), if_neg (fun v => z v.1)]
  have vX : ∀ j, (j < 990 ∨ 1010 ≤ j) → wSl A B D1 s nL j = D1 j := fun j hj => wSl_ne (by have := h.1.2.2.2.2.2.1; omega)
  generalize hX1 : wSl A B D1 s nL = X1 at *
  have ne : ∀ j, (j < 100 ∨ (180 ≤ j ∧ j < 192) ∨ (196 ≤ j ∧ j < 990) ∨ 1010 ≤ j) → ups X1 (1130 + e) 1 j = ups w (1130 + e) 1 j := fun j hj => by
    unfold ups; split
    · rfl
    · rw [vX j (by omega), vD j (by omega)]
  have kqX : KQ (ups X1 (1130 + e) 1) = 3 * KQ w := by rw [← hKQ]; exact KQ_eq (fun x hx => ne _ (by omega))
  refine ⟨hC.fr (fun j _ _ => ne j (by omega)), hAc.fr hC (fun j _ => ne j (by omega)), hSc.fr (fun j _ => ne j (by omega)), ⟨fun a t ha ht => ?_, fun t ht => ?_⟩, hI.fr hC (fun j _ => ne j (by omega)), hT.fr hC (fun j _ => ne j (by omega)), hK.fr (fun j _ => ne j (by omega)), fun l hl2 hc => ?_, hE.fr (fun j _ => ne j (by omega))⟩
  · have k := hH0.1 a t ha ht
    have c1 : ups X1 (1130 + e) 1 1540 = w 1540 := by rw [ne _ (by omega), ups_ne (by omega)]
    have c2 : ups X1 (1130 + e) 1 1541 = w 1541 := by rw [ne _ (by omega), ups_ne (by omega)]
    rw [c1, c2, ups_ne (by omega), ups_ne (by omega), vX _ (by omega), vX _ (by omega), vh a t ha ht, vb a t ha ht]
    by_cases z : t = s ∧ a < nA
    · rw [if_pos z, if_pos z]
      obtain ⟨z1, z2⟩ := z
      subst z1
      have hfa := hf a ha
      have v := sp_v hA hB k.1 (by omega)
      have m := sp_mo hA hB k.1 k.2.1 (by omega)
      have u := s1 a z2
      exact ⟨v.2.1, by omega, fun y => by omega, fun y => by omega⟩
    · rw [if_neg z, if_neg z]; exact k
  · rw [kqX, ups_ne (by omega), vX _ (by omega)]
    by_cases z : t = s
    · subst z
      rw [vo]
      have e1 : sm (fun a => ups X1 (1130 + e) 1 (100 + 4 * a + t)) 10 = sm (fun a => sNh A B w t nA a) nA := by
        rw [sm_zt (m := nA) 10 h0 (fun a x y => by
          show ups X1 (1130 + e) 1 (100 + 4 * a + t) = 0
          rw [ups_ne (by omega), vX _ (by omega), vh a t y hs, if_neg (fun v => absurd v.2 (by omega))]
          exact (hH0.1 a t y hs).2.2.1 (by omega))]
        refine sm_eq nA (fun a ha => ?_)
        show ups X1 (1130 + e) 1 (100 + 4 * a + t) = _
        rw [ups_ne (by omega), vX _ (by omega), vh a t (by omega) hs, if_pos ⟨rfl, ha⟩]
      rw [e1, s2]
      exact ⟨rfl, by omega⟩
    · rw [vD _ (by omega)]
      have k := hH0.2 t ht
      have e1 : sm (fun a => ups X1 (1130 + e) 1 (100 + 4 * a + t)) 10 = sm (fun a => w (100 + 4 * a + t)) 10 := sm_eq 10 (fun a ha => by
        show ups X1 (1130 + e) 1 (100 + 4 * a + t) = _
        rw [ups_ne (by omega), vX _ (by omega), vh a t ha ht, if_neg (fun v => z v.1)])
      rw [e1]
      exact ⟨k.1, by omega⟩
  · rw [ne 1545 (by omega)] at hc
    have k := hL l hl2 hc
    rw [ups_ne (by omega)] at hc
    have k0 := h.2.2.2.2.2.2.2.1 l hl2 hc
    rw [kqX, ne (930 + l) (by omega), ne (950 + l) (by omega), ne (970 + l) (by omega), ne (1010 + l) (by omega), ne (1030 + l) (by omega), ne 1540 (by omega), ne 1541 (by omega)]
    refine ⟨k.1, k.2.1, k.2.2.1, ?_, k.2.2.2.2⟩
    rw [ups_ne (by omega), vl l hl2]
    by_cases z : l < nL ∧ w (970 + l) = (s : Int) ∧ 0 ≤ w (990 + l)
    · rw [if_pos z]
      have v := sp_v hA hB z.2.2 (by omega)
      omega
    · rw [if_neg z]; omega
