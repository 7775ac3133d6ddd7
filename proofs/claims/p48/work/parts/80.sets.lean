-- sets of candidates and their order
def FF (q : Nat) (f : Nat → Bool) : Prop := ∀ k, q ≤ k → f k = false
def e0 : Nat → Bool := fun _ => false
theorem FF.e0 (q : Nat) : FF q e0 := fun _ _ => rfl
theorem FF.mono {p q : Nat} {f : Nat → Bool} (h : FF p f) (hp : p ≤ q) : FF q f := fun k hk => h k (by omega)
theorem FF.gs {q k : Nat} {f : Nat → Bool} (h : FF q f) (hk : k < q) : FF q (gs f k) := fun i hi => by
  show (f i || decide (i = k)) = false
  rw [h i hi, decide_eq_false (by omega)]; rfl
theorem FF.ext {q : Nat} {f g : Nat → Bool} (h : FF q f) (h2 : FF q g) (e : ∀ k, k < q → f k = g k) : f = g := by
  funext k
  by_cases z : k < q
  · exact e k z
  · rw [h k (by omega), h2 k (by omega)]
/-- the sum of g over what f has -/
def sf (f : Nat → Bool) (g : Nat → Int) (n : Nat) : Int := sm (fun k => if f k then g k else 0) n
theorem sf_s (f : Nat → Bool) (g : Nat → Int) (n : Nat) : sf f g (n + 1) = sf f g n + (if f n then g n else 0) := rfl
theorem sf_gs {f : Nat → Bool} {g : Nat → Int} {k n : Nat} (hk : k < n) (h : f k = false) : sf (gs f k) g n = sf f g n + g k := by
  have := sm_up (f := fun i => if f i then g i else 0) (g := fun i => if gs f k i then g i else 0) (b := k) n hk (fun a _ hne => by
    show (if (f a || decide (a = k)) then g a else 0) = _
    rw [decide_eq_false hne, Bool.or_false])
  unfold sf
  rw [this]
  show _ + ((if (f k || decide (k = k)) then g k else 0) - (if f k then g k else 0)) = _
  rw [h, decide_eq_true rfl, Bool.or_true, if_t, if_f]; omega
theorem sf_e0 (g : Nat → Int) : ∀ n, sf e0 g n = 0
  | 0 => rfl
  | n + 1 => by rw [sf_s, sf_e0 g n]; rfl
theorem sf_nn {f : Nat → Bool} {g : Nat → Int} : ∀ n, (∀ k, k < n → 0 ≤ g k) → 0 ≤ sf f g n
  | 0, _ => Int.le_refl 0
  | n + 1, h => by
    have := sf_nn (f := f) n (fun k hk => h k (by omega))
    have := h n (by omega)
    rw [sf_s]; split <;> omega
theorem sf_le {f : Nat → Bool} {g : Nat → Int} {B : Int} (hB : 0 ≤ B) : ∀ n, (∀ k, k < n → g k ≤ B) → sf f g n ≤ n * B
  | 0, _ => by unfold sf sm; omega
  | n + 1, h => by
    have := sf_le (f := f) hB n (fun k hk => h k (by omega))
    have := h n (by omega)
    have e : ((n + 1 : Nat) : Int) * B = n * B + B := by rw [Int.natCast_add, Int.add_mul]; omega
    rw [sf_s, e]; split <;> omega
theorem sf_3 {f a b : Nat → Bool} {g : Nat → Int} : ∀ n, (∀ k, k < n → 0 ≤ g k ∧ (f k = true → a k = true ∨ b k = true)) → sf f g n ≤ sf a g n + sf b g n
  | 0, _ => by unfold sf sm; omega
  | n + 1, h => by
    have := sf_3 (f := f) (a := a) (b := b) (g := g) n (fun k hk => h k (by omega))
    obtain ⟨h1, h2⟩ := h n (by omega)
    rw [sf_s, sf_s, sf_s]
    cases q : f n
    · rw [if_f]; split <;> split <;> omega
    · rcases h2 q with z | z
      · rw [z, if_t]; split <;> omega
      · rw [z, if_t]; split <;> omega
/-- what is left from i on -/
def re (g : Nat → Int) (q i : Nat) : Int := sf (fun k => decide (i ≤ k)) g q
theorem re_q (g : Nat → Int) (q i : Nat) (h : q ≤ i) : re g q i = 0 := by
  have : ∀ n, n ≤ q → sf (fun k => decide (i ≤ k)) g n = 0 := by
    intro n
    induction n with
    | zero => intro _; rfl
    | succ n ih => intro hn; rw [sf_s, ih (by omega), decide_eq_false (by omega)]; rfl
  exact this q (Nat.le_refl q)
theorem re_s (g : Nat → Int) (q i : Nat) (h : i < q) : re g q i = re g q (i + 1) + g i := by
  have e : (fun k => decide (i ≤ k)) = gs (fun k => decide (i + 1 ≤ k)) i := by
    funext k
    show decide (i ≤ k) = (decide (i + 1 ≤ k) || decide (k = i))
    by_cases a : i ≤ k
    · by_cases b : k = i
      · rw [decide_eq_true a, decide_eq_true b, Bool.or_true]
      · rw [decide_eq_true a, decide_eq_true (show i + 1 ≤ k by omega)]; rfl
    · rw [decide_eq_false a, decide_eq_false (show ¬ i + 1 ≤ k by omega), decide_eq_false (show ¬ k = i by omega)]; rfl
  unfold re
  rw [e, sf_gs h (decide_eq_false (by omega))]
/-- a set as a number, what comes first counting most -/
def rv (f : Nat → Bool) : Nat → Nat
  | 0 => 0
  | n + 1 => 2 * rv f n + (if f n then 1 else 0)
theorem rv_s (f : Nat → Bool) (n : Nat) : rv f (n + 1) = 2 * rv f n + (if f n then 1 else 0) := rfl
theorem two_m (x d : Nat) : x * 2 ^ (d + 1) = 2 * (x * 2 ^ d) := by
  rw [Nat.pow_succ, ← Nat.mul_assoc, Nat.mul_comm]
theorem rv_b (f : Nat → Bool) (n : Nat) : ∀ d, rv f n * 2 ^ d ≤ rv f (n + d) ∧ rv f (n + d) + 1 ≤ (rv f n + 1) * 2 ^ d
  | 0 => by rw [Nat.pow_zero, Nat.add_zero]; omega
  | d + 1 => by
    have ih := rv_b f n d
    rw [two_m, two_m, ← Nat.add_assoc, rv_s]
    split <;> omega
theorem rv_c {f g : Nat → Bool} : ∀ n, (∀ k, k < n → f k = g k) → rv f n = rv g n
  | 0, _ => rfl
  | n + 1, h => by unfold rv; rw [rv_c n (fun k hk => h k (by omega)), h n (by omega)]
theorem rv_inj {f g : Nat → Bool} : ∀ n, rv f n = rv g n → ∀ k, k < n → f k = g k
  | 0, _, k, hk => absurd hk (Nat.not_lt_zero _)
  | n + 1, h, k, hk => by
    unfold rv at h
    have e : f n = g n := by
      cases a : f n <;> cases b : g n
      · rfl
      · rw [a, b, if_f, if_t] at h; omega
      · rw [a, b, if_f, if_t] at h; omega
      · rfl
    by_cases z : k = n
    · rw [z]; exact e
    · rw [e] at h
      exact rv_inj n (by omega) k (by omega)
theorem rv_z {f : Nat → Bool} {n : Nat} (h : FF n f) : ∀ d, rv f (n + d) = rv f n * 2 ^ d
  | 0 => by rw [Nat.pow_zero, Nat.add_zero, Nat.mul_one]
  | d + 1 => by
    rw [two_m, ← rv_z h d, ← Nat.add_assoc, rv_s, h (n + d) (by omega), if_f]; rfl
theorem rv_lt {f g : Nat → Bool} {k q : Nat} (hk : k < q) (h : ∀ i, i < k → f i = g i) (hf : f k = true) (hg : g k = false) : rv g q < rv f q := by
  obtain ⟨d, rfl⟩ : ∃ d, q = k + 1 + d := ⟨q - (k + 1), by omega⟩
  have a := rv_b f (k + 1) d
  have b := rv_b g (k + 1) d
  have e : rv f (k + 1) = rv g (k + 1) + 1 := by
    show 2 * rv f k + (if f k then 1 else 0) = 2 * rv g k + (if g k then 1 else 0) + 1
    rw [rv_c k h, hf, hg]; rfl
  rw [e] at a; omega
/-- better: worth, then number, then what comes first -/
def bet (W C : (Nat → Bool) → Int) (q : Nat) (f g : Nat → Bool) : Prop := W g < W f ∨ (W f = W g ∧ (C g < C f ∨ (C f = C g ∧ rv g q < rv f q)))
/-- what holds of worth and number -/
def OW (W C : (Nat → Bool) → Int) (g : Nat → Int) (q : Nat) : Prop := (∀ f, FF q f → W e0 ≤ W f) ∧ (∀ f, FF q f → C e0 ≤ C f ∧ (C f = C e0 → f = e0)) ∧ ∀ n S f, FF n S → FF q f → n ≤ q → (∀ k, k < n → f k = S k) → W f ≤ W S + re g q n
/-- the class's weak choice -/
def wk (W C : (Nat → Bool) → Int) (p : (Nat → Bool) → Bool) (S B : Nat → Bool) : Nat → Bool := if (W B < W S ∨ (W S = W B ∧ C B < C S)) ∧ p S = true then S else B

def dfs (W C : (Nat → Bool) → Int) (p : (Nat → Bool) → Bool) (g : Nat → Int) (q : Nat) : Nat → Nat → (Nat → Bool) → (Nat → Bool) → Nat → Bool
  | 0, n, S, B => if W S + re g q n < W B then B else wk W C p S B
  | d + 1, n, S, B => if W S + re g q n < W B then B else dfs W C p g q d (n + 1) S (dfs W C p g q d (n + 1) (gs S n) B)
def VV (p : (Nat → Bool) → Bool) (q τ : Nat) (f : Nat → Bool) : Prop := FF q f ∧ (f = e0 ∨ (p f = true ∧ τ ≤ rv f q))
def MX (W C : (Nat → Bool) → Int) (p : (Nat → Bool) → Bool) (q τ : Nat) (r : Nat → Bool) : Prop := VV p q τ r ∧ ∀ f, VV p q τ f → ¬ bet W C q f r
theorem dfs_prune {W C : (Nat → Bool) → Int} {p : (Nat → Bool) → Bool} {g : Nat → Int} {q : Nat} (hO : OW W C g q) {d n : Nat} {S B : Nat → Bool} (hn : n + d = q) (hS : FF n S) (hB : MX W C p q ((rv S n + 1) * 2 ^ d) B) (hp : W S + re g q n < W B) : MX W C p q (rv S n * 2 ^ d) B := by
  have le : rv S n * 2 ^ d ≤ (rv S n + 1) * 2 ^ d := Nat.mul_le_mul_right _ (by omega)
  refine ⟨⟨hB.1.1, ?_⟩, fun f hf => ?_⟩
  · rcases hB.1.2 with z | ⟨z1, z2⟩
    · exact Or.inl z
    · exact Or.inr ⟨z1, by omega⟩
  · by_cases z : (rv S n + 1) * 2 ^ d ≤ rv f q
    · refine hB.2 f ⟨hf.1, ?_⟩
      rcases hf.2 with y | y
      · exact Or.inl y
      · exact Or.inr ⟨y.1, z⟩
    · rcases hf.2 with y | y
      · exact hB.2 f ⟨hf.1, Or.inl y⟩
      · have b := rv_b f n d
        rw [hn] at b
        have e : rv f n = rv S n := by
          have h1 : rv f n * 2 ^ d < (rv S n + 1) * 2 ^ d := by omega
          have h2 : rv S n * 2 ^ d < (rv f n + 1) * 2 ^ d := by omega
          have h3 := Nat.lt_of_mul_lt_mul_right h1
          have h4 := Nat.lt_of_mul_lt_mul_right h2
          omega
        have := hO.2.2 n S f hS hf.1 (by omega) (rv_inj n e)
        unfold bet; omega
theorem dfs_ok {W C : (Nat → Bool) → Int} {p : (Nat → Bool) → Bool} {g : Nat → Int} {q : Nat} (hO : OW W C g q) : ∀ (d n : Nat) (S B : Nat → Bool), n + d = q → FF n S → MX W C p q ((rv S n + 1) * 2 ^ d) B → MX W C p q (rv S n * 2 ^ d) (dfs W C p g q d n S B) := by
  intro d
  induction d with
  | zero =>
    intro n S B hn hS hB
    have hnq : n = q := by omega
    subst hnq
    unfold dfs
    split
    · exact dfs_prune hO hn hS hB (by assumption)
    · have same : ∀ f, FF n f → rv f n = rv S n → f = S := fun f hf he => hf.ext hS (rv_inj n he)
      rw [Nat.pow_zero, Nat.mul_one] at hB ⊢
      unfold wk
      split
      · rename_i h
        refine ⟨⟨hS, Or.inr ⟨h.2, Nat.le_refl _⟩⟩, fun f hf => ?_⟩
        by_cases z : rv S n + 1 ≤ rv f n ∨ f = e0
        · have := hB.2 f ⟨hf.1, by
            rcases hf.2 with y | y
            · exact Or.inl y
            · rcases z with z | z
              · exact Or.inr ⟨y.1, z⟩
              · exact Or.inl z⟩
          unfold bet at this ⊢; omega
        · rcases hf.2 with y | y
          · exact absurd (Or.inr y) z
          · have : rv f n = rv S n := by
              have h2 : ¬ rv S n + 1 ≤ rv f n := fun x => z (Or.inl x)
              omega
            rw [same f hf.1 this]; unfold bet; omega
      · rename_i h
        refine ⟨⟨hB.1.1, ?_⟩, fun f hf => ?_⟩
        · rcases hB.1.2 with z | ⟨z1, z2⟩
          · exact Or.inl z
          · exact Or.inr ⟨z1, by omega⟩
        · by_cases z : rv S n + 1 ≤ rv f n ∨ f = e0
          · exact hB.2 f ⟨hf.1, by
              rcases hf.2 with y | y
              · exact Or.inl y
              · rcases z with z | z
                · exact Or.inr ⟨y.1, z⟩
                · exact Or.inl z⟩
          · rcases hf.2 with y | y
            · exact absurd (Or.inr y) z
            · have e : rv f n = rv S n := by
                have h2 : ¬ rv S n + 1 ≤ rv f n := fun x => z (Or.inl x)
                omega
              have fS := same f hf.1 e
              have hw : ¬ (W B < W S ∨ (W S = W B ∧ C B < C S)) := fun x => h ⟨x, by rw [← fS]; exact y.1⟩
              rw [fS]
              rcases hB.1.2 with x | ⟨x1, x2⟩
              · rw [x] at hw ⊢
                have c := hO.2.1 S hS
                intro b
                by_cases v : C S = C e0
                · have := c.2 v
                  rw [this] at b; unfold bet at b; omega
                · unfold bet at b; omega
              · unfold bet; omega
  | succ d ih =>
    intro n S B hn hS hB
    unfold dfs
    split
    · exact dfs_prune hO hn hS hB (by assumption)
    · have hS1 : FF (n + 1) (gs S n) := (hS.mono (by omega)).gs (by omega)
      have r1 : rv (gs S n) (n + 1) = 2 * rv S n + 1 := by
        show 2 * rv (gs S n) n + (if (S n || decide (n = n)) then 1 else 0) = _
        rw [decide_eq_true rfl, Bool.or_true, if_t, rv_c (g := S) n (fun k hk => by
          show (S k || decide (k = n)) = S k
          rw [decide_eq_false (by omega), Bool.or_false])]
      have r2 : rv S (n + 1) = 2 * rv S n := by
        show 2 * rv S n + (if S n then 1 else 0) = _
        rw [hS n (Nat.le_refl n), if_f]; rfl
      have k1 : (rv S n + 1) * 2 ^ (d + 1) = (rv (gs S n) (n + 1) + 1) * 2 ^ d := by
        rw [r1, Nat.pow_succ, Nat.mul_comm (2 ^ d) 2, ← Nat.mul_assoc, Nat.add_mul, Nat.mul_comm (rv S n) 2]
      have k2 : rv (gs S n) (n + 1) * 2 ^ d = (rv S (n + 1) + 1) * 2 ^ d := by rw [r1, r2]
      have k3 : rv S (n + 1) * 2 ^ d = rv S n * 2 ^ (d + 1) := by
        rw [r2, Nat.pow_succ, Nat.mul_comm (2 ^ d) 2, ← Nat.mul_assoc, Nat.mul_comm (rv S n) 2]
      rw [k1] at hB
      have x1 := ih (n + 1) (gs S n) B (by omega) hS1 hB
      rw [k2] at x1
      have x2 := ih (n + 1) S _ (by omega) (hS.mono (by omega)) x1
      rw [k3] at x2; exact x2
/-- a number's set -/
def tb (m : Nat) : Nat → Bool := fun k => m.testBit k
def mk (f : Nat → Bool) : Nat → Nat
  | 0 => 0
  | n + 1 => 2 * mk (fun k => f (k + 1)) n + (if f 0 then 1 else 0)
theorem mk_lt : ∀ (n : Nat) (f : Nat → Bool), mk f n < 2 ^ n
  | 0, _ => Nat.one_pos
  | n + 1, f => by
    have := mk_lt n (fun k => f (k + 1))
    unfold mk; rw [Nat.pow_succ]; split <;> omega
theorem mk_tb : ∀ (n : Nat) (f : Nat → Bool), FF n f → tb (mk f n) = f
  | 0, f, h => by
    funext k
    rw [h k (Nat.zero_le k)]
    show Nat.testBit 0 k = false
    exact Nat.zero_testBit k
  | n + 1, f, h => by
    have ih := mk_tb n (fun k => f (k + 1)) (fun k hk => h (k + 1) (by omega))
    funext k
    show Nat.testBit (2 * mk (fun k => f (k + 1)) n + (if f 0 then 1 else 0)) k = f k
    cases k with
    | zero =>
      rw [Nat.testBit_zero]
      cases q : f 0
      · rw [if_f, decide_eq_false (by omega)]
      · rw [if_t, decide_eq_true (by omega)]
    | succ k =>
      rw [Nat.testBit_succ, show (2 * mk (fun k => f (k + 1)) n + (if f 0 then 1 else 0)) / 2 = mk (fun k => f (k + 1)) n by split <;> omega]
      exact congrFun ih k
theorem tb_F {m q : Nat} (h : m < 2 ^ q) : FF q (tb m) := fun k hk => Nat.testBit_lt_two_pow (Nat.lt_of_lt_of_le h (Nat.pow_le_pow_right (by omega) hk))
theorem tb_0 : tb 0 = e0 := by
  funext k; exact Nat.zero_testBit k
/-- the model's best of the sets below n -/
def MM (W C : (Nat → Bool) → Int) (p : (Nat → Bool) → Bool) (q n b : Nat) : Prop := (b < n ∧ (b = 0 ∨ p (tb b) = true)) ∧ ∀ m, m < n → (m = 0 ∨ p (tb m) = true) → ¬ bet W C q (tb m) (tb b)
theorem MM.s {W C : (Nat → Bool) → Int} {p : (Nat → Bool) → Bool} {q n b : Nat} (h : MM W C p q n b) (h1 : bet W C q (tb n) (tb b)) (h2 : p (tb n) = true) : MM W C p q (n + 1) n := by
  refine ⟨⟨by omega, Or.inr h2⟩, fun m hm hp => ?_⟩
  by_cases z : m = n
  · rw [z]; unfold bet; omega
  · have := h.2 m (by omega) hp
    unfold bet at h1 this ⊢; omega
theorem MM.k {W C : (Nat → Bool) → Int} {p : (Nat → Bool) → Bool} {q n b : Nat} (h : MM W C p q n b) (hn : 0 < n) (h1 : ¬ (bet W C q (tb n) (tb b) ∧ p (tb n) = true)) : MM W C p q (n + 1) b := by
  refine ⟨⟨Nat.lt_succ_of_lt h.1.1, h.1.2⟩, fun m hm hp => ?_⟩
  by_cases z : m = n
  · rw [z] at hp ⊢
    rcases hp with y | y
    · omega
    · exact fun x => h1 ⟨x, y⟩
  · exact h.2 m (by omega) hp
theorem MM.eq {W C : (Nat → Bool) → Int} {p : (Nat → Bool) → Bool} {q b : Nat} {r : Nat → Bool} (h : MM W C p q (2 ^ q) b) (h2 : MX W C p q 0 r) : r = tb b := by
  have fb := tb_F h.1.1
  have x1 := h2.2 (tb b) ⟨fb, by
    rcases h.1.2 with y | y
    · rw [y, tb_0]; exact Or.inl rfl
    · exact Or.inr ⟨y, Nat.zero_le _⟩⟩
  have x2 := h.2 (mk r q) (mk_lt q r) (by
    rw [mk_tb q r h2.1.1]
    rcases h2.1.2 with y | y
    · left
      rw [y]
      have : ∀ n, mk e0 n = 0 := by
        intro n
        induction n with
        | zero => rfl
        | succ n ih => exact (show 2 * mk e0 n + 0 = 0 by omega)
      exact this q
    · exact Or.inr y.1)
  rw [mk_tb q r h2.1.1] at x2
  refine h2.1.1.ext fb (rv_inj q ?_)
  unfold bet at x1 x2; omega
theorem MX.start {W C : (Nat → Bool) → Int} {p : (Nat → Bool) → Bool} {q : Nat} : MX W C p q (1 * 2 ^ q) e0 := by
  refine ⟨⟨FF.e0 q, Or.inl rfl⟩, fun f hf => ?_⟩
  rcases hf.2 with y | y
  · rw [y]; unfold bet; omega
  · have := rv_b f 0 q
    rw [Nat.zero_add] at this
    have e : rv f 0 = 0 := rfl
    rw [e] at this; omega
