/-! what the days and the cycles keep: the ledgers' sum, the cash's sum, instructions without a trade -/
theorem w64_per (x k : Int) : w64 (x + 18446744073709551616 * k) = w64 x := by
  obtain ⟨k2, h2⟩ := w64_ex (x + 18446744073709551616 * k)
  obtain ⟨k3, h3⟩ := w64_ex x
  have r2 := w64_r (x + 18446744073709551616 * k)
  have r3 := w64_r x
  omega
theorem w64_sm (f : Nat → Int) : ∀ n, w64 (sm (fun a => w64 (f a)) n) = w64 (sm f n)
  | 0 => rfl
  | n + 1 => by
    show w64 (sm (fun a => w64 (f a)) n + w64 (f n)) = w64 (sm f n + f n)
    rw [w64_add', ← w64_add, w64_sm f n, w64_add]
theorem sm_add (f g : Nat → Int) : ∀ n, sm (fun a => f a + g a) n = sm f n + sm g n
  | 0 => rfl
  | n + 1 => by
    show sm (fun a => f a + g a) n + (f n + g n) = (sm f n + f n) + (sm g n + g n)
    rw [sm_add f g n]; omega
theorem sm_0 {f : Nat → Int} : ∀ n, (∀ a, a < n → f a = 0) → sm f n = 0
  | 0, _ => rfl
  | n + 1, h => by unfold sm; rw [sm_0 n (fun a ha => h a (by omega)), h n (by omega)]; rfl
theorem sm_one {d : Nat} {v : Int} {n : Nat} (hd : d < n) : sm (fun b => if b = d then v else 0) n = v := by
  rw [sm_up (f := fun _ => 0) (b := d) n hd (fun a _ hne => if_neg hne), sm_0 n (fun _ _ => rfl), if_pos rfl]; omega
def NS (w w' : Nat → Int) : Prop := ∀ i : Nat, i < 40 → w (650 + i) = -1 → w' (570 + i) = w (570 + i)
def LSE (w w' : Nat → Int) : Prop := ∀ n : Nat, w 1540 = (n : Int) → w64 (sm (fun a => w' (80 + a)) n) = w64 (sm (fun a => w (80 + a)) n)
def CSE (w w' : Nat → Int) : Prop := ∀ n : Nat, w 1540 = (n : Int) → w64 (sm (fun a => w' (30 + a)) n) = w64 (sm (fun a => w (30 + a)) n)
def QD (w w' : Nat → Int) : Prop := LSE w w' ∧ NS w w' ∧ ∀ j, (j < 10 ∨ (650 ≤ j ∧ j < 690) ∨ (730 ≤ j ∧ j < 770) ∨ (1540 ≤ j ∧ j < 1544) ∨ j = 1546) → w' j = w j
def QC (w w' : Nat → Int) : Prop := CSE w w' ∧ NS w w'
theorem QD.refl (w : Nat → Int) : QD w w := ⟨fun _ _ => rfl, fun _ _ _ => rfl, fun _ _ => rfl⟩
theorem QC.refl (w : Nat → Int) : QC w w := ⟨fun _ _ => rfl, fun _ _ _ => rfl⟩
theorem QD.trans {w w1 w2 : Nat → Int} (h : QD w w1) (h2 : QD w1 w2) : QD w w2 :=
  ⟨fun n hn => (h2.1 n (by rw [h.2.2 1540 (by omega)]; exact hn)).trans (h.1 n hn), fun i hi hz => by
    rw [h2.2.1 i hi (by rw [h.2.2 _ (by omega)]; exact hz)]; exact h.2.1 i hi hz, fun j hj => (h2.2.2 j hj).trans (h.2.2 j hj)⟩
theorem QC.trans {w w1 w2 : Nat → Int} (h : QC w w1) (h2 : QC w1 w2) (e : w1 1540 = w 1540) (e2 : ∀ i, i < 40 → w1 (650 + i) = w (650 + i)) : QC w w2 :=
  ⟨fun n hn => (h2.1 n (by rw [e]; exact hn)).trans (h.1 n hn), fun i hi hz => by
    rw [h2.2 i hi (by rw [e2 i hi]; exact hz)]; exact h.2 i hi hz⟩
theorem QD.of {w w' : Nat → Int} (h10 : w 1540 ≤ 10) (h : ∀ j, j < 10 ∨ (80 ≤ j ∧ j < 90) ∨ (570 ≤ j ∧ j < 610) ∨ (650 ≤ j ∧ j < 690) ∨ (730 ≤ j ∧ j < 770) ∨ (1540 ≤ j ∧ j < 1544) ∨ j = 1546 → w' j = w j) : QD w w' :=
  ⟨fun n hn => by rw [sm_eq (g := fun a => w (80 + a)) n (fun a ha => h _ (by omega))], fun i hi _ => h _ (by omega), fun j hj => h j (by omega)⟩
theorem LSE.ow {w : Nat → Int} {d c : Nat} (hd : (d : Int) < w 1540) (hc : (c : Int) < w 1540) (x : Int) : LSE w (wOw w d c x) := by
  intro n hn
  have e1 : sm (fun a => ups w (80 + d) (w64 (w (80 + d) - x)) (80 + a)) n = sm (fun a => w (80 + a)) n + (w64 (w (80 + d) - x) - w (80 + d)) := by
    rw [sm_up (f := fun a => w (80 + a)) (b := d) n (by omega) (fun a _ hne => ups_ne (by omega)), ups_same]
  have e2 : sm (fun a => wOw w d c x (80 + a)) n = sm (fun a => ups w (80 + d) (w64 (w (80 + d) - x)) (80 + a)) n + (w64 (ups w (80 + d) (w64 (w (80 + d) - x)) (80 + c) + x) - ups w (80 + d) (w64 (w (80 + d) - x)) (80 + c)) := by
    unfold wOw
    rw [sm_up (f := fun a => ups w (80 + d) (w64 (w (80 + d) - x)) (80 + a)) (b := c) n (by omega) (fun a _ hne => ups_ne (by omega)), ups_same]
  obtain ⟨k1, h1⟩ := w64_ex (w (80 + d) - x)
  obtain ⟨k2, h2⟩ := w64_ex (ups w (80 + d) (w64 (w (80 + d) - x)) (80 + c) + x)
  rw [e2, e1, h2, h1, ← w64_per (sm (fun a => w (80 + a)) n) (k1 + k2)]
  congr 1
  omega
theorem QD.ow {w : Nat → Int} {d c : Nat} (hd : (d : Int) < w 1540) (hc : (c : Int) < w 1540) (h10 : w 1540 ≤ 10) (x : Int) : QD w (wOw w d c x) := by
  have ne : ∀ j, j < 80 ∨ 90 ≤ j → wOw w d c x j = w j := fun j hj => by
    unfold wOw; rw [ups_ne (by omega), ups_ne (by omega)]
  exact ⟨LSE.ow hd hc x, fun i hi _ => ne _ (by omega), fun j hj => ne j (by omega)⟩
