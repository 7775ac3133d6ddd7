/-! the set-up's cells as lists -/
abbrev xD : Type := List (Nat ⊕ (Nat × Nat)) × List (List (Nat × Nat)) × List (List (Nat × Int))
def lkR : List (Nat × Nat) → Nat → Option Nat
  | [], _ => none
  | q :: r, k => if k = q.1 then some q.2 else lkR r k
def lkM : List (Nat × Int) → Nat → Int
  | [], _ => 0
  | q :: r, k => if k = q.1 then q.2 else lkM r k
def ofD (d : xD) : xS := ((d.1.length, fun c => d.1.getD c (.inl 99), fun c k => lkR (d.2.1.getD c []) k), fun c k => lkM (d.2.2.getD c []) k)
def consAt {α : Type} (x : α) : Nat → List (List α) → List (List α)
  | _, [] => []
  | 0, a :: r => (x :: a) :: r
  | n + 1, a :: r => a :: consAt x n r
theorem consAt_len {α : Type} (x : α) : ∀ (n : Nat) (l : List (List α)), (consAt x n l).length = l.length
  | _, [] => by cases ‹Nat› <;> rfl
  | 0, _ :: _ => rfl
  | n + 1, _ :: r => congrArg Nat.succ (consAt_len x n r)
theorem consAt_get {α : Type} (x : α) : ∀ (n : Nat) (l : List (List α)) (c : Nat), n < l.length → (consAt x n l).getD c [] = if c = n then x :: l.getD c [] else l.getD c []
  | n, [], c, h => absurd h (Nat.not_lt_zero n)
  | 0, a :: r, c, h => by cases c <;> simp [consAt]
  | n + 1, a :: r, c, h => by
    cases c with
    | zero => simp [consAt]
    | succ c => simpa [consAt] using consAt_get x n r c (by simpa using h)
def newD (t : Nat ⊕ (Nat × Nat)) (d : xD) : xD := (d.1 ++ [t], d.2.1 ++ [[]], d.2.2 ++ [[]])
def refD (c k b : Nat) (d : xD) : xD := (d.1, consAt (k, b) c d.2.1, d.2.2)
def putD (c k : Nat) (v : Int) (d : xD) : xD := (d.1, d.2.1, consAt (k, v) c d.2.2)
def xRd (σ : xS) (d : xD) : Prop := σ = ofD d ∧ d.2.1.length = d.1.length ∧ d.2.2.length = d.1.length
theorem getD_app {α : Type} {l : List α} {x z : α} {c : Nat} : (l ++ [x]).getD c z = if c = l.length then x else l.getD c z := by
  simp only [List.getD_eq_getElem?_getD]
  rcases Nat.lt_trichotomy c l.length with h | h | h
  · rw [if_neg (by omega), List.getElem?_append_left h]
  · rw [if_pos h, h]; simp
  · rw [if_neg (by omega), List.getElem?_eq_none (by simp; omega), List.getElem?_eq_none (by omega)]
theorem xRd.n {σ : xS} {d : xD} (h : xRd σ d) : σ.1.1 = d.1.length := by rw [h.1]; rfl
theorem xRd.new {σ : xS} {d : xD} {t : Nat ⊕ (Nat × Nat)} (h : xRd σ d) : xRd (xnew σ t) (newD t d) := by
  obtain ⟨rfl, h2, h3⟩ := h
  refine ⟨?_, by simp [newD, h2], by simp [newD, h3]⟩
  unfold xnew ofD newD
  refine Prod.ext (Prod.ext ?_ (Prod.ext ?_ ?_)) ?_
  · simp
  · funext c; exact getD_app.symm
  · funext c k
    show (if c = d.1.length then none else lkR (d.2.1.getD c []) k) = lkR ((d.2.1 ++ [[]]).getD c []) k
    rw [getD_app, h2]
    split <;> rfl
  · funext c k
    show (if c = d.1.length then 0 else lkM (d.2.2.getD c []) k) = lkM ((d.2.2 ++ [[]]).getD c []) k
    rw [getD_app, h3]
    split <;> rfl
theorem xRd.ref {σ : xS} {d : xD} {c k b : Nat} (h : xRd σ d) (hc : c < d.1.length) : xRd (kRef c k b σ) (refD c k b d) := by
  obtain ⟨rfl, h2, h3⟩ := h
  refine ⟨?_, by simp [refD, consAt_len, h2], h3⟩
  unfold kRef ofD refD
  refine Prod.ext (Prod.ext rfl (Prod.ext rfl ?_)) rfl
  funext a j
  show xup (fun c k => lkR (d.2.1.getD c []) k) c k (some b) a j = lkR ((consAt (k, b) c d.2.1).getD a []) j
  rw [consAt_get _ _ _ _ (by rw [h2]; exact hc)]
  by_cases q : a = c
  · by_cases q2 : j = k
    · rw [if_pos q]; subst q; subst q2; rw [xup_same]; simp [lkR]
    · rw [if_pos q, xup_ne (fun z => q2 z.2)]; simp [lkR, q2]
  · rw [if_neg q, xup_ne (fun z => q z.1)]
theorem xRd.put {σ : xS} {d : xD} {c k : Nat} {v : Int} (h : xRd σ d) (hc : c < d.1.length) : xRd (kPut c k v σ) (putD c k v d) := by
  obtain ⟨rfl, h2, h3⟩ := h
  refine ⟨?_, h2, by simp [putD, consAt_len, h3]⟩
  unfold kPut ofD putD
  refine Prod.ext rfl ?_
  funext a j
  show xup (fun c k => lkM (d.2.2.getD c []) k) c k v a j = lkM ((consAt (k, v) c d.2.2).getD a []) j
  rw [consAt_get _ _ _ _ (by rw [h3]; exact hc)]
  by_cases q : a = c
  · by_cases q2 : j = k
    · rw [if_pos q]; subst q; subst q2; rw [xup_same]; simp [lkM]
    · rw [if_pos q, xup_ne (fun z => q2 z.2)]; simp [lkM, q2]
  · rw [if_neg q, xup_ne (fun z => q z.1)]
def arrD (t : Nat ⊕ (Nat × Nat)) (c k : Nat) (d : xD) : xD := refD c k d.1.length (newD t d)
theorem newD_len {t : Nat ⊕ (Nat × Nat)} {d : xD} : (newD t d).1.length = d.1.length + 1 := by simp [newD]
theorem refD_len {c k b : Nat} {d : xD} : (refD c k b d).1.length = d.1.length := rfl
theorem arrD_len {t : Nat ⊕ (Nat × Nat)} {c k : Nat} {d : xD} : (arrD t c k d).1.length = d.1.length + 1 := by simp [arrD, refD, newD]
theorem xRd.arr {σ : xS} {d : xD} {t : Nat ⊕ (Nat × Nat)} {c k : Nat} (h : xRd σ d) (hc : c < d.1.length) : xRd (kArr t c k σ) (arrD t c k d) := by
  unfold kArr arrD; rw [h.n]; exact h.new.ref (by rw [newD_len]; omega)
def loopD (f : Nat → xD → xD) : Nat → Nat → xD → xD
  | 0, _, d => d
  | m + 1, k, d => loopD f m (k + 1) (f k d)
theorem xRd.loop {f : Nat → xS → xS} {g : Nat → xD → xD} {B : Nat} (hf : ∀ k σ d, xRd σ d → B ≤ d.1.length → xRd (f k σ) (g k d) ∧ B ≤ (g k d).1.length) : ∀ (m k : Nat) (σ : xS) (d : xD), xRd σ d → B ≤ d.1.length → xRd (kLoop f m k σ) (loopD g m k d) ∧ B ≤ (loopD g m k d).1.length
  | 0, _, _, _, h, hB => ⟨h, hB⟩
  | m + 1, k, σ, d, h, hB => xRd.loop hf m (k + 1) (f k σ) (g k d) (hf k σ d h hB).1 (hf k σ d h hB).2
def objD (ini : Nat → Nat → xD → xD) (ci a k : Nat) (d : xD) : xD := refD a k d.1.length (ini k d.1.length (newD (.inl ci) d))
theorem xRd.obj {ini : Nat → Nat → xS → xS} {iniD : Nat → Nat → xD → xD} {ci a k : Nat} {σ : xS} {d : xD} (h : xRd σ d) (ha : a < d.1.length) (hi : ∀ σ d c, xRd σ d → c < d.1.length → xRd (ini k c σ) (iniD k c d) ∧ d.1.length ≤ (iniD k c d).1.length) : xRd (kObj ini ci a k σ) (objD iniD ci a k d) ∧ d.1.length ≤ (objD iniD ci a k d).1.length := by
  unfold kObj objD
  have h1 := hi _ _ d.1.length (h.new (t := .inl ci)) (by rw [newD_len]; omega)
  have h2 := h1.2
  rw [newD_len] at h2
  rw [h.n]
  exact ⟨h1.1.ref (by omega), by show _ ≤ (iniD k d.1.length (newD (.inl ci) d)).1.length; omega⟩
def k0D (c : Nat) (d : xD) : xD := arrD (.inr (1, 44)) c 11 (arrD (.inr (1, 4)) c 10 (arrD (.inr (1, 4)) c 9 (putD c 1 (-1) d)))
def k4D (c : Nat) (d : xD) : xD := arrD (.inr (1, 20)) c 12 (arrD (.inr (1, 10)) c 11 (arrD (.inr (1, 10)) c 10 d))
def k5D (c : Nat) (d : xD) : xD := putD c 10 (-1) (putD c 9 0 d)
def k10D (c i : Nat) (d : xD) : xD := putD c 0 (i : Int) (putD c 12 1 d)
def k8D (c : Nat) (d : xD) : xD := arrD (.inr (0, 10)) c 0 d
def k2D (c b : Nat) (d : xD) : xD := refD c 0 b (arrD (.inr (1, 10)) c 3 (arrD (.inr (1, 11)) c 2 (arrD (.inr (0, 20)) c 1 d)))
def k3D (c b : Nat) (d : xD) : xD := refD c 0 b d
theorem rd0 {σ : xS} {d : xD} {c : Nat} (h : xRd σ d) (hc : c < d.1.length) : xRd (k0 c σ) (k0D c d) ∧ d.1.length ≤ (k0D c d).1.length :=
  ⟨(((h.put hc).arr hc).arr (by rw [arrD_len]; show c < d.1.length + 1; omega)).arr (by rw [arrD_len, arrD_len]; show c < d.1.length + 1 + 1; omega), by unfold k0D; rw [arrD_len, arrD_len, arrD_len]; show _ ≤ d.1.length + 1 + 1 + 1; omega⟩
theorem rd4 {σ : xS} {d : xD} {c : Nat} (h : xRd σ d) (hc : c < d.1.length) : xRd (k4 c σ) (k4D c d) ∧ d.1.length ≤ (k4D c d).1.length :=
  ⟨((h.arr hc).arr (by rw [arrD_len]; omega)).arr (by rw [arrD_len, arrD_len]; omega), by unfold k4D; rw [arrD_len, arrD_len, arrD_len]; omega⟩
theorem rd5 {σ : xS} {d : xD} {c : Nat} (h : xRd σ d) (hc : c < d.1.length) : xRd (k5 c σ) (k5D c d) ∧ d.1.length ≤ (k5D c d).1.length := ⟨(h.put hc).put hc, Nat.le_refl _⟩
theorem rd10 {σ : xS} {d : xD} {c i : Nat} (h : xRd σ d) (hc : c < d.1.length) : xRd (k10 c i σ) (k10D c i d) ∧ d.1.length ≤ (k10D c i d).1.length := ⟨(h.put hc).put hc, Nat.le_refl _⟩
theorem rd8 {σ : xS} {d : xD} {c : Nat} (h : xRd σ d) (hc : c < d.1.length) : xRd (k8 c σ) (k8D c d) := h.arr hc
theorem rd2 {σ : xS} {d : xD} {c b : Nat} (h : xRd σ d) (hc : c < d.1.length) : xRd (k2 c b σ) (k2D c b d) :=
  (((h.arr hc).arr (by rw [arrD_len]; omega)).arr (by rw [arrD_len, arrD_len]; omega)).ref (by rw [arrD_len, arrD_len, arrD_len]; omega)
theorem rd3 {σ : xS} {d : xD} {c b : Nat} (h : xRd σ d) (hc : c < d.1.length) : xRd (k3 c b σ) (k3D c b d) := h.ref hc
def k1aD (c mail : Nat) (d : xD) : xD := refD c 0 mail (arrD (.inr (1, 9)) c 8 (arrD (.inr (9, 11)) c 7 (arrD (.inr (8, 21)) c 6 (arrD (.inr (7, 11)) c 5 (arrD (.inr (6, 21)) c 4 (arrD (.inr (5, 41)) c 3 (arrD (.inr (4, 5)) c 2 (arrD (.inr (3, 11)) c 1 d))))))))
theorem rd1a {σ : xS} {d : xD} {c mail : Nat} (h : xRd σ d) (hc : c < d.1.length) : xRd (k1a c mail σ) (k1aD c mail d) ∧ d.1.length + 8 ≤ (k1aD c mail d).1.length :=
  ⟨((((((((h.arr hc).arr (by simp only [arrD_len]; omega)).arr (by simp only [arrD_len]; omega)).arr (by simp only [arrD_len]; omega)).arr (by simp only [arrD_len]; omega)).arr (by simp only [arrD_len]; omega)).arr (by simp only [arrD_len]; omega)).arr (by simp only [arrD_len]; omega)).ref (by simp only [arrD_len]; omega), by
    unfold k1aD; simp only [refD_len, arrD_len]; omega⟩
def k1bD7 (n : Nat) (d : xD) : xD := loopD (fun k => putD (n + 7) k 15) 9 0 d
theorem rdb7 {σ : xS} {d : xD} {n : Nat} (h : xRd σ d) (hn : n + 8 ≤ d.1.length) : xRd (k1b7 n σ) (k1bD7 n d) := (xRd.loop (B := n + 8) (g := fun k => putD (n + 7) k 15) (fun k σ d h hB => ⟨h.put (by omega), hB⟩) 9 0 σ d h hn).1
def k1bD6 (n : Nat) (d : xD) : xD := k1bD7 n (loopD (objD (fun _ => k4D) 4 (n + 6)) 11 0 d)
theorem rdb6 {σ : xS} {d : xD} {n : Nat} (h : xRd σ d) (hn : n + 8 ≤ d.1.length) : xRd (k1b6 n σ) (k1bD6 n d) :=
  have h2 := xRd.loop (B := n + 8) (f := kObj (fun _ => k4) 4 (n + 6)) (g := objD (fun _ => k4D) 4 (n + 6)) (fun k σ d h hB => ⟨(h.obj (ini := (fun _ => k4)) (iniD := (fun _ => k4D)) (by omega) (fun σ d c h hc => rd4 h hc)).1, Nat.le_trans hB (h.obj (ini := (fun _ => k4)) (iniD := (fun _ => k4D)) (by omega) (fun σ d c h hc => rd4 h hc)).2⟩) 11 0 σ d h hn
  rdb7 h2.1 h2.2
def k1bD5 (n : Nat) (d : xD) : xD := k1bD6 n (loopD (objD (fun _ _ τ => τ) 7 (n + 5)) 21 0 d)
theorem rdb5 {σ : xS} {d : xD} {n : Nat} (h : xRd σ d) (hn : n + 8 ≤ d.1.length) : xRd (k1b5 n σ) (k1bD5 n d) :=
  have h2 := xRd.loop (B := n + 8) (f := kObj (fun _ _ τ => τ) 7 (n + 5)) (g := objD (fun _ _ τ => τ) 7 (n + 5)) (fun k σ d h hB => ⟨(h.obj (ini := (fun _ _ τ => τ)) (iniD := (fun _ _ τ => τ)) (by omega) (fun σ d c h hc => ⟨h, Nat.le_refl _⟩)).1, Nat.le_trans hB (h.obj (ini := (fun _ _ τ => τ)) (iniD := (fun _ _ τ => τ)) (by omega) (fun σ d c h hc => ⟨h, Nat.le_refl _⟩)).2⟩) 21 0 σ d h hn
  rdb6 h2.1 h2.2
def k1bD4 (n : Nat) (d : xD) : xD := k1bD5 n (loopD (objD (fun _ _ τ => τ) 6 (n + 4)) 11 0 d)
theorem rdb4 {σ : xS} {d : xD} {n : Nat} (h : xRd σ d) (hn : n + 8 ≤ d.1.length) : xRd (k1b4 n σ) (k1bD4 n d) :=
  have h2 := xRd.loop (B := n + 8) (f := kObj (fun _ _ τ => τ) 6 (n + 4)) (g := objD (fun _ _ τ => τ) 6 (n + 4)) (fun k σ d h hB => ⟨(h.obj (ini := (fun _ _ τ => τ)) (iniD := (fun _ _ τ => τ)) (by omega) (fun σ d c h hc => ⟨h, Nat.le_refl _⟩)).1, Nat.le_trans hB (h.obj (ini := (fun _ _ τ => τ)) (iniD := (fun _ _ τ => τ)) (by omega) (fun σ d c h hc => ⟨h, Nat.le_refl _⟩)).2⟩) 11 0 σ d h hn
  rdb5 h2.1 h2.2
def k1bD3 (n : Nat) (d : xD) : xD := k1bD4 n (loopD (objD (fun k c => k10D c k) 10 (n + 3)) 21 0 d)
theorem rdb3 {σ : xS} {d : xD} {n : Nat} (h : xRd σ d) (hn : n + 8 ≤ d.1.length) : xRd (k1b3 n σ) (k1bD3 n d) :=
  have h2 := xRd.loop (B := n + 8) (f := kObj (fun k c => k10 c k) 10 (n + 3)) (g := objD (fun k c => k10D c k) 10 (n + 3)) (fun k σ d h hB => ⟨(h.obj (ini := (fun k c => k10 c k)) (iniD := (fun k c => k10D c k)) (by omega) (fun σ d c h hc => rd10 h hc)).1, Nat.le_trans hB (h.obj (ini := (fun k c => k10 c k)) (iniD := (fun k c => k10D c k)) (by omega) (fun σ d c h hc => rd10 h hc)).2⟩) 21 0 σ d h hn
  rdb4 h2.1 h2.2
def k1bD2 (n : Nat) (d : xD) : xD := k1bD3 n (loopD (objD (fun _ => k5D) 5 (n + 2)) 41 0 d)
theorem rdb2 {σ : xS} {d : xD} {n : Nat} (h : xRd σ d) (hn : n + 8 ≤ d.1.length) : xRd (k1b2 n σ) (k1bD2 n d) :=
  have h2 := xRd.loop (B := n + 8) (f := kObj (fun _ => k5) 5 (n + 2)) (g := objD (fun _ => k5D) 5 (n + 2)) (fun k σ d h hB => ⟨(h.obj (ini := (fun _ => k5)) (iniD := (fun _ => k5D)) (by omega) (fun σ d c h hc => rd5 h hc)).1, Nat.le_trans hB (h.obj (ini := (fun _ => k5)) (iniD := (fun _ => k5D)) (by omega) (fun σ d c h hc => rd5 h hc)).2⟩) 41 0 σ d h hn
  rdb3 h2.1 h2.2
def k1bD1 (n : Nat) (d : xD) : xD := k1bD2 n (loopD (objD (fun _ _ τ => τ) 9 (n + 1)) 5 0 d)
theorem rdb1 {σ : xS} {d : xD} {n : Nat} (h : xRd σ d) (hn : n + 8 ≤ d.1.length) : xRd (k1b1 n σ) (k1bD1 n d) :=
  have h2 := xRd.loop (B := n + 8) (f := kObj (fun _ _ τ => τ) 9 (n + 1)) (g := objD (fun _ _ τ => τ) 9 (n + 1)) (fun k σ d h hB => ⟨(h.obj (ini := (fun _ _ τ => τ)) (iniD := (fun _ _ τ => τ)) (by omega) (fun σ d c h hc => ⟨h, Nat.le_refl _⟩)).1, Nat.le_trans hB (h.obj (ini := (fun _ _ τ => τ)) (iniD := (fun _ _ τ => τ)) (by omega) (fun σ d c h hc => ⟨h, Nat.le_refl _⟩)).2⟩) 5 0 σ d h hn
  rdb2 h2.1 h2.2
def k1bD0 (n : Nat) (d : xD) : xD := k1bD1 n (loopD (objD (fun _ => k0D) 0 (n + 0)) 11 0 d)
theorem rdb0 {σ : xS} {d : xD} {n : Nat} (h : xRd σ d) (hn : n + 8 ≤ d.1.length) : xRd (k1b0 n σ) (k1bD0 n d) :=
  have h2 := xRd.loop (B := n + 8) (f := kObj (fun _ => k0) 0 (n + 0)) (g := objD (fun _ => k0D) 0 (n + 0)) (fun k σ d h hB => ⟨(h.obj (ini := (fun _ => k0)) (iniD := (fun _ => k0D)) (by omega) (fun σ d c h hc => rd0 h hc)).1, Nat.le_trans hB (h.obj (ini := (fun _ => k0)) (iniD := (fun _ => k0D)) (by omega) (fun σ d c h hc => rd0 h hc)).2⟩) 11 0 σ d h hn
  rdb1 h2.1 h2.2
def k1D (c mail n : Nat) (d : xD) : xD := k1bD0 n (k1aD c mail d)
theorem rd1 {σ : xS} {d : xD} {c mail n : Nat} (h : xRd σ d) (hc : c < d.1.length) (hn : n ≤ d.1.length) : xRd (k1 c mail n σ) (k1D c mail n d) := rdb0 (rd1a h hc).1 (by have := (rd1a (mail := mail) h hc).2; omega)
def nD (ini : Nat → xD → xD) (ci c k : Nat) (d : xD) : xD := refD c k d.1.length (ini d.1.length (newD (.inl ci) d))
theorem xRd.nN {ini : Nat → xS → xS} {iniD : Nat → xD → xD} {ci c k : Nat} {σ : xS} {d : xD} (h : xRd σ d) (hi : ∀ σ d c, xRd σ d → c < d.1.length → c + 1 ≤ d.1.length → xRd (ini c σ) (iniD c d)) (hc : c < (nD iniD ci c k d).1.length) : xRd (kN ini ci c k σ) (nD iniD ci c k d) := by
  unfold kN nD
  rw [h.n]
  exact (hi _ _ d.1.length (h.new (t := .inl ci)) (by rw [newD_len]; omega) (by rw [newD_len]; omega)).ref hc
def dA : xD := newD (.inl 11) ([], [], [])
def dB : xD := nD k8D 8 0 0 dA
def dC : xD := nD (fun x τ => k1D x 1 (x + 1) τ) 1 0 1 dB
def dE : xD := nD (fun x τ => k1D x 1 (x + 1) τ) 1 0 2 dC
def dF : xD := nD (fun x τ => k2D x 3 τ) 2 0 3 dE
def dG : xD := nD (fun x τ => k3D x 3 τ) 3 0 4 dF
def dJ : xD := newD (.inr (0, 5)) (putD 0 5 0 dG)
def kBeg : xS := ((0, fun _ => .inl 99, fun _ _ => none), fun _ _ => 0)
def kEnd : xS := xnew (k11 0 1 (xnew kBeg (.inl 11))) (.inr (0, 5))
def litT : List (Nat ⊕ (Nat × Nat)) := [.inl 11, .inl 8, .inr (0, 10), .inl 1, .inr (3, 11), .inr (4, 5), .inr (5, 41), .inr (6, 21), .inr (7, 11), .inr (8, 21), .inr (9, 11), .inr (1, 9), .inl 0, .inr (1, 4), .inr (1, 4), .inr (1, 44), .inl 0, .inr (1, 4), .inr (1, 4), .inr (1, 44), .inl 0, .inr (1, 4), .inr (1, 4), .inr (1, 44), .inl 0, .inr (1, 4), .inr (1, 4), .inr (1, 44), .inl 0, .inr (1, 4), .inr (1, 4), .inr (1, 44), .inl 0, .inr (1, 4), .inr (1, 4), .inr (1, 44), .inl 0, .inr (1, 4), .inr (1, 4), .inr (1, 44), .inl 0, .inr (1, 4), .inr (1, 4), .inr (1, 44), .inl 0, .inr (1, 4), .inr (1, 4), .inr (1, 44), .inl 0, .inr (1, 4), .inr (1, 4), .inr (1, 44), .inl 0, .inr (1, 4), .inr (1, 4), .inr (1, 44), .inl 9, .inl 9, .inl 9, .inl 9, .inl 9, .inl 5, .inl 5, .inl 5, .inl 5, .inl 5, .inl 5, .inl 5, .inl 5, .inl 5, .inl 5, .inl 5, .inl 5, .inl 5, .inl 5, .inl 5, .inl 5, .inl 5, .inl 5, .inl 5, .inl 5, .inl 5, .inl 5, .inl 5, .inl 5, .inl 5, .inl 5, .inl 5, .inl 5, .inl 5, .inl 5, .inl 5, .inl 5, .inl 5, .inl 5, .inl 5, .inl 5, .inl 5, .inl 5, .inl 5, .inl 5, .inl 5, .inl 10, .inl 10, .inl 10, .inl 10, .inl 10, .inl 10, .inl 10, .inl 10, .inl 10, .inl 10, .inl 10, .inl 10, .inl 10, .inl 10, .inl 10, .inl 10, .inl 10, .inl 10, .inl 10, .inl 10, .inl 10, .inl 6, .inl 6, .inl 6, .inl 6, .inl 6, .inl 6, .inl 6, .inl 6, .inl 6, .inl 6, .inl 6, .inl 7, .inl 7, .inl 7, .inl 7, .inl 7, .inl 7, .inl 7, .inl 7, .inl 7, .inl 7, .inl 7, .inl 7, .inl 7, .inl 7, .inl 7, .inl 7, .inl 7, .inl 7, .inl 7, .inl 7, .inl 7, .inl 4, .inr (1, 10), .inr (1, 10), .inr (1, 20), .inl 4, .inr (1, 10), .inr (1, 10), .inr (1, 20), .inl 4, .inr (1, 10), .inr (1, 10), .inr (1, 20), .inl 4, .inr (1, 10), .inr (1, 10), .inr (1, 20), .inl 4, .inr (1, 10), .inr (1, 10), .inr (1, 20), .inl 4, .inr (1, 10), .inr (1, 10), .inr (1, 20), .inl 4, .inr (1, 10), .inr (1, 10), .inr (1, 20), .inl 4, .inr (1, 10), .inr (1, 10), .inr (1, 20), .inl 4, .inr (1, 10), .inr (1, 10), .inr (1, 20), .inl 4, .inr (1, 10), .inr (1, 10), .inr (1, 20), .inl 4, .inr (1, 10), .inr (1, 10), .inr (1, 20), .inl 1, .inr (3, 11), .inr (4, 5), .inr (5, 41), .inr (6, 21), .inr (7, 11), .inr (8, 21), .inr (9, 11), .inr (1, 9), .inl 0, .inr (1, 4), .inr (1, 4), .inr (1, 44), .inl 0, .inr (1, 4), .inr (1, 4), .inr (1, 44), .inl 0, .inr (1, 4), .inr (1, 4), .inr (1, 44), .inl 0, .inr (1, 4), .inr (1, 4), .inr (1, 44), .inl 0, .inr (1, 4), .inr (1, 4), .inr (1, 44), .inl 0, .inr (1, 4), .inr (1, 4), .inr (1, 44), .inl 0, .inr (1, 4), .inr (1, 4), .inr (1, 44), .inl 0, .inr (1, 4), .inr (1, 4), .inr (1, 44), .inl 0, .inr (1, 4), .inr (1, 4), .inr (1, 44), .inl 0, .inr (1, 4), .inr (1, 4), .inr (1, 44), .inl 0, .inr (1, 4), .inr (1, 4), .inr (1, 44), .inl 9, .inl 9, .inl 9, .inl 9, .inl 9, .inl 5, .inl 5, .inl 5, .inl 5, .inl 5, .inl 5, .inl 5, .inl 5, .inl 5, .inl 5, .inl 5, .inl 5, .inl 5, .inl 5, .inl 5, .inl 5, .inl 5, .inl 5, .inl 5, .inl 5, .inl 5, .inl 5, .inl 5, .inl 5, .inl 5, .inl 5, .inl 5, .inl 5, .inl 5, .inl 5, .inl 5, .inl 5, .inl 5, .inl 5, .inl 5, .inl 5, .inl 5, .inl 5, .inl 5, .inl 5, .inl 5, .inl 10, .inl 10, .inl 10, .inl 10, .inl 10, .inl 10, .inl 10, .inl 10, .inl 10, .inl 10, .inl 10, .inl 10, .inl 10, .inl 10, .inl 10, .inl 10, .inl 10, .inl 10, .inl 10, .inl 10, .inl 10, .inl 6, .inl 6, .inl 6, .inl 6, .inl 6, .inl 6, .inl 6, .inl 6, .inl 6, .inl 6, .inl 6, .inl 7, .inl 7, .inl 7, .inl 7, .inl 7, .inl 7, .inl 7, .inl 7, .inl 7, .inl 7, .inl 7, .inl 7, .inl 7, .inl 7, .inl 7, .inl 7, .inl 7, .inl 7, .inl 7, .inl 7, .inl 7, .inl 4, .inr (1, 10), .inr (1, 10), .inr (1, 20), .inl 4, .inr (1, 10), .inr (1, 10), .inr (1, 20), .inl 4, .inr (1, 10), .inr (1, 10), .inr (1, 20), .inl 4, .inr (1, 10), .inr (1, 10), .inr (1, 20), .inl 4, .inr (1, 10), .inr (1, 10), .inr (1, 20), .inl 4, .inr (1, 10), .inr (1, 10), .inr (1, 20), .inl 4, .inr (1, 10), .inr (1, 10), .inr (1, 20), .inl 4, .inr (1, 10), .inr (1, 10), .inr (1, 20), .inl 4, .inr (1, 10), .inr (1, 10), .inr (1, 20), .inl 4, .inr (1, 10), .inr (1, 10), .inr (1, 20), .inl 4, .inr (1, 10), .inr (1, 10), .inr (1, 20), .inl 2, .inr (0, 20), .inr (1, 11), .inr (1, 10), .inl 3, .inr (0, 5)]
def litR : List (List (Nat × Nat)) := [[(4, 399), (3, 395), (2, 199), (1, 3), (0, 1)], [(0, 2)], [], [(0, 1), (8, 11), (7, 10), (6, 9), (5, 8), (4, 7), (3, 6), (2, 5), (1, 4)], [(10, 52), (9, 48), (8, 44), (7, 40), (6, 36), (5, 32), (4, 28), (3, 24), (2, 20), (1, 16), (0, 12)], [(4, 60), (3, 59), (2, 58), (1, 57), (0, 56)], [(40, 101), (39, 100), (38, 99), (37, 98), (36, 97), (35, 96), (34, 95), (33, 94), (32, 93), (31, 92), (30, 91), (29, 90), (28, 89), (27, 88), (26, 87), (25, 86), (24, 85), (23, 84), (22, 83), (21, 82), (20, 81), (19, 80), (18, 79), (17, 78), (16, 77), (15, 76), (14, 75), (13, 74), (12, 73), (11, 72), (10, 71), (9, 70), (8, 69), (7, 68), (6, 67), (5, 66), (4, 65), (3, 64), (2, 63), (1, 62), (0, 61)], [(20, 122), (19, 121), (18, 120), (17, 119), (16, 118), (15, 117), (14, 116), (13, 115), (12, 114), (11, 113), (10, 112), (9, 111), (8, 110), (7, 109), (6, 108), (5, 107), (4, 106), (3, 105), (2, 104), (1, 103), (0, 102)], [(10, 133), (9, 132), (8, 131), (7, 130), (6, 129), (5, 128), (4, 127), (3, 126), (2, 125), (1, 124), (0, 123)], [(20, 154), (19, 153), (18, 152), (17, 151), (16, 150), (15, 149), (14, 148), (13, 147), (12, 146), (11, 145), (10, 144), (9, 143), (8, 142), (7, 141), (6, 140), (5, 139), (4, 138), (3, 137), (2, 136), (1, 135), (0, 134)], [(10, 195), (9, 191), (8, 187), (7, 183), (6, 179), (5, 175), (4, 171), (3, 167), (2, 163), (1, 159), (0, 155)], [], [(11, 15), (10, 14), (9, 13)], [], [], [], [(11, 19), (10, 18), (9, 17)], [], [], [], [(11, 23), (10, 22), (9, 21)], [], [], [], [(11, 27), (10, 26), (9, 25)], [], [], [], [(11, 31), (10, 30), (9, 29)], [], [], [], [(11, 35), (10, 34), (9, 33)], [], [], [], [(11, 39), (10, 38), (9, 37)], [], [], [], [(11, 43), (10, 42), (9, 41)], [], [], [], [(11, 47), (10, 46), (9, 45)], [], [], [], [(11, 51), (10, 50), (9, 49)], [], [], [], [(11, 55), (10, 54), (9, 53)], [], [], [], [], [], [], [], [], [], [], [], [], [], [], [], [], [], [], [], [], [], [], [], [], [], [], [], [], [], [], [], [], [], [], [], [], [], [], [], [], [], [], [], [], [], [], [], [], [], [], [], [], [], [], [], [], [], [], [], [], [], [], [], [], [], [], [], [], [], [], [], [], [], [], [], [], [], [], [], [], [], [], [], [], [], [], [], [], [], [], [], [], [], [], [], [], [], [], [], [], [], [], [(12, 158), (11, 157), (10, 156)], [], [], [], [(12, 162), (11, 161), (10, 160)], [], [], [], [(12, 166), (11, 165), (10, 164)], [], [], [], [(12, 170), (11, 169), (10, 168)], [], [], [], [(12, 174), (11, 173), (10, 172)], [], [], [], [(12, 178), (11, 177), (10, 176)], [], [], [], [(12, 182), (11, 181), (10, 180)], [], [], [], [(12, 186), (11, 185), (10, 184)], [], [], [], [(12, 190), (11, 189), (10, 188)], [], [], [], [(12, 194), (11, 193), (10, 192)], [], [], [], [(12, 198), (11, 197), (10, 196)], [], [], [], [(0, 1), (8, 207), (7, 206), (6, 205), (5, 204), (4, 203), (3, 202), (2, 201), (1, 200)], [(10, 248), (9, 244), (8, 240), (7, 236), (6, 232), (5, 228), (4, 224), (3, 220), (2, 216), (1, 212), (0, 208)], [(4, 256), (3, 255), (2, 254), (1, 253), (0, 252)], [(40, 297), (39, 296), (38, 295), (37, 294), (36, 293), (35, 292), (34, 291), (33, 290), (32, 289), (31, 288), (30, 287), (29, 286), (28, 285), (27, 284), (26, 283), (25, 282), (24, 281), (23, 280), (22, 279), (21, 278), (20, 277), (19, 276), (18, 275), (17, 274), (16, 273), (15, 272), (14, 271), (13, 270), (12, 269), (11, 268), (10, 267), (9, 266), (8, 265), (7, 264), (6, 263), (5, 262), (4, 261), (3, 260), (2, 259), (1, 258), (0, 257)], [(20, 318), (19, 317), (18, 316), (17, 315), (16, 314), (15, 313), (14, 312), (13, 311), (12, 310), (11, 309), (10, 308), (9, 307), (8, 306), (7, 305), (6, 304), (5, 303), (4, 302), (3, 301), (2, 300), (1, 299), (0, 298)], [(10, 329), (9, 328), (8, 327), (7, 326), (6, 325), (5, 324), (4, 323), (3, 322), (2, 321), (1, 320), (0, 319)], [(20, 350), (19, 349), (18, 348), (17, 347), (16, 346), (15, 345), (14, 344), (13, 343), (12, 342), (11, 341), (10, 340), (9, 339), (8, 338), (7, 337), (6, 336), (5, 335), (4, 334), (3, 333), (2, 332), (1, 331), (0, 330)], [(10, 391), (9, 387), (8, 383), (7, 379), (6, 375), (5, 371), (4, 367), (3, 363), (2, 359), (1, 355), (0, 351)], [], [(11, 211), (10, 210), (9, 209)], [], [], [], [(11, 215), (10, 214), (9, 213)], [], [], [], [(11, 219), (10, 218), (9, 217)], [], [], [], [(11, 223), (10, 222), (9, 221)], [], [], [], [(11, 227), (10, 226), (9, 225)], [], [], [], [(11, 231), (10, 230), (9, 229)], [], [], [], [(11, 235), (10, 234), (9, 233)], [], [], [], [(11, 239), (10, 238), (9, 237)], [], [], [], [(11, 243), (10, 242), (9, 241)], [], [], [], [(11, 247), (10, 246), (9, 245)], [], [], [], [(11, 251), (10, 250), (9, 249)], [], [], [], [], [], [], [], [], [], [], [], [], [], [], [], [], [], [], [], [], [], [], [], [], [], [], [], [], [], [], [], [], [], [], [], [], [], [], [], [], [], [], [], [], [], [], [], [], [], [], [], [], [], [], [], [], [], [], [], [], [], [], [], [], [], [], [], [], [], [], [], [], [], [], [], [], [], [], [], [], [], [], [], [], [], [], [], [], [], [], [], [], [], [], [], [], [], [], [], [], [], [], [(12, 354), (11, 353), (10, 352)], [], [], [], [(12, 358), (11, 357), (10, 356)], [], [], [], [(12, 362), (11, 361), (10, 360)], [], [], [], [(12, 366), (11, 365), (10, 364)], [], [], [], [(12, 370), (11, 369), (10, 368)], [], [], [], [(12, 374), (11, 373), (10, 372)], [], [], [], [(12, 378), (11, 377), (10, 376)], [], [], [], [(12, 382), (11, 381), (10, 380)], [], [], [], [(12, 386), (11, 385), (10, 384)], [], [], [], [(12, 390), (11, 389), (10, 388)], [], [], [], [(12, 394), (11, 393), (10, 392)], [], [], [], [(0, 3), (3, 398), (2, 397), (1, 396)], [], [], [], [(0, 3)], []]
def litM : List (List (Nat × Int)) := [[(5, 0)], [], [], [], [], [], [], [], [], [], [], [(8, 15), (7, 15), (6, 15), (5, 15), (4, 15), (3, 15), (2, 15), (1, 15), (0, 15)], [(1, -1)], [], [], [], [(1, -1)], [], [], [], [(1, -1)], [], [], [], [(1, -1)], [], [], [], [(1, -1)], [], [], [], [(1, -1)], [], [], [], [(1, -1)], [], [], [], [(1, -1)], [], [], [], [(1, -1)], [], [], [], [(1, -1)], [], [], [], [(1, -1)], [], [], [], [], [], [], [], [], [(10, -1), (9, 0)], [(10, -1), (9, 0)], [(10, -1), (9, 0)], [(10, -1), (9, 0)], [(10, -1), (9, 0)], [(10, -1), (9, 0)], [(10, -1), (9, 0)], [(10, -1), (9, 0)], [(10, -1), (9, 0)], [(10, -1), (9, 0)], [(10, -1), (9, 0)], [(10, -1), (9, 0)], [(10, -1), (9, 0)], [(10, -1), (9, 0)], [(10, -1), (9, 0)], [(10, -1), (9, 0)], [(10, -1), (9, 0)], [(10, -1), (9, 0)], [(10, -1), (9, 0)], [(10, -1), (9, 0)], [(10, -1), (9, 0)], [(10, -1), (9, 0)], [(10, -1), (9, 0)], [(10, -1), (9, 0)], [(10, -1), (9, 0)], [(10, -1), (9, 0)], [(10, -1), (9, 0)], [(10, -1), (9, 0)], [(10, -1), (9, 0)], [(10, -1), (9, 0)], [(10, -1), (9, 0)], [(10, -1), (9, 0)], [(10, -1), (9, 0)], [(10, -1), (9, 0)], [(10, -1), (9, 0)], [(10, -1), (9, 0)], [(10, -1), (9, 0)], [(10, -1), (9, 0)], [(10, -1), (9, 0)], [(10, -1), (9, 0)], [(10, -1), (9, 0)], [(0, 0), (12, 1)], [(0, 1), (12, 1)], [(0, 2), (12, 1)], [(0, 3), (12, 1)], [(0, 4), (12, 1)], [(0, 5), (12, 1)], [(0, 6), (12, 1)], [(0, 7), (12, 1)], [(0, 8), (12, 1)], [(0, 9), (12, 1)], [(0, 10), (12, 1)], [(0, 11), (12, 1)], [(0, 12), (12, 1)], [(0, 13), (12, 1)], [(0, 14), (12, 1)], [(0, 15), (12, 1)], [(0, 16), (12, 1)], [(0, 17), (12, 1)], [(0, 18), (12, 1)], [(0, 19), (12, 1)], [(0, 20), (12, 1)], [], [], [], [], [], [], [], [], [], [], [], [], [], [], [], [], [], [], [], [], [], [], [], [], [], [], [], [], [], [], [], [], [], [], [], [], [], [], [], [], [], [], [], [], [], [], [], [], [], [], [], [], [], [], [], [], [], [], [], [], [], [], [], [], [], [], [], [], [], [], [], [], [], [], [], [], [], [], [], [], [], [], [], [], [(8, 15), (7, 15), (6, 15), (5, 15), (4, 15), (3, 15), (2, 15), (1, 15), (0, 15)], [(1, -1)], [], [], [], [(1, -1)], [], [], [], [(1, -1)], [], [], [], [(1, -1)], [], [], [], [(1, -1)], [], [], [], [(1, -1)], [], [], [], [(1, -1)], [], [], [], [(1, -1)], [], [], [], [(1, -1)], [], [], [], [(1, -1)], [], [], [], [(1, -1)], [], [], [], [], [], [], [], [], [(10, -1), (9, 0)], [(10, -1), (9, 0)], [(10, -1), (9, 0)], [(10, -1), (9, 0)], [(10, -1), (9, 0)], [(10, -1), (9, 0)], [(10, -1), (9, 0)], [(10, -1), (9, 0)], [(10, -1), (9, 0)], [(10, -1), (9, 0)], [(10, -1), (9, 0)], [(10, -1), (9, 0)], [(10, -1), (9, 0)], [(10, -1), (9, 0)], [(10, -1), (9, 0)], [(10, -1), (9, 0)], [(10, -1), (9, 0)], [(10, -1), (9, 0)], [(10, -1), (9, 0)], [(10, -1), (9, 0)], [(10, -1), (9, 0)], [(10, -1), (9, 0)], [(10, -1), (9, 0)], [(10, -1), (9, 0)], [(10, -1), (9, 0)], [(10, -1), (9, 0)], [(10, -1), (9, 0)], [(10, -1), (9, 0)], [(10, -1), (9, 0)], [(10, -1), (9, 0)], [(10, -1), (9, 0)], [(10, -1), (9, 0)], [(10, -1), (9, 0)], [(10, -1), (9, 0)], [(10, -1), (9, 0)], [(10, -1), (9, 0)], [(10, -1), (9, 0)], [(10, -1), (9, 0)], [(10, -1), (9, 0)], [(10, -1), (9, 0)], [(10, -1), (9, 0)], [(0, 0), (12, 1)], [(0, 1), (12, 1)], [(0, 2), (12, 1)], [(0, 3), (12, 1)], [(0, 4), (12, 1)], [(0, 5), (12, 1)], [(0, 6), (12, 1)], [(0, 7), (12, 1)], [(0, 8), (12, 1)], [(0, 9), (12, 1)], [(0, 10), (12, 1)], [(0, 11), (12, 1)], [(0, 12), (12, 1)], [(0, 13), (12, 1)], [(0, 14), (12, 1)], [(0, 15), (12, 1)], [(0, 16), (12, 1)], [(0, 17), (12, 1)], [(0, 18), (12, 1)], [(0, 19), (12, 1)], [(0, 20), (12, 1)], [], [], [], [], [], [], [], [], [], [], [], [], [], [], [], [], [], [], [], [], [], [], [], [], [], [], [], [], [], [], [], [], [], [], [], [], [], [], [], [], [], [], [], [], [], [], [], [], [], [], [], [], [], [], [], [], [], [], [], [], [], [], [], [], [], [], [], [], [], [], [], [], [], [], [], [], [], [], [], [], [], []]
