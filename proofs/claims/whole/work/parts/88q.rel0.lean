-- the beginning
def xZ : xM := fun c k => lkM (litM.getD c []) k
theorem xZ_w : ∀ j : Nat, j < 1550 → xZ 401 j = if 196 ≤ j ∧ j < 205 then 15 else 0 := by decide +kernel
theorem xZ_z {j : Nat} (h : j < 196 ∨ (205 ≤ j ∧ j < 1550)) : xZ 401 j = 0 := by rw [xZ_w j (by omega), if_neg (by omega)]
theorem xZ_1 : ∀ j : Nat, j < 1550 → mpd j = true → j < 10 ∨ xZ (cj j).1 (cj j).2 = xZ 401 j + off j ∨ (650 ≤ j ∧ j < 690) := by decide +kernel
theorem xZ_C : (∀ t : Nat, t < 20 → xZ (102 + t) 0 = (t : Int)) ∧ (∀ l : Nat, l < 20 → xZ (134 + l) 5 = 0 ∧ xZ (134 + l) 6 = 0) ∧ (∀ i : Nat, i < 40 → xZ (61 + i) 10 = -1) ∧ (∀ t : Nat, t < 20 → xZ (298 + t) 0 = (t : Int)) := by decide +kernel
theorem xZ_V : xZ 3 17 = 0 ∧ (∀ a : Nat, a < 10 → ∀ k : Nat, k < 44 → xZ (15 + 4 * a) k = 0) ∧ (∀ a : Nat, a < 10 → xZ 2 a = xZ 403 a) ∧ xZ 0 5 = xZ 400 2 ∧ xZ 400 2 = 0 := by decide +kernel
theorem xZ_R : R xZ (xZ 401) := by
  refine ⟨fun j hm hl => ?_, fun t _ ht => ?_, fun l _ hl => ?_, xZ_C.1, fun l hl _ => xZ_C.2.1 l hl, fun i hi _ => xZ_C.2.2.1 i hi⟩
  · obtain ⟨l1, l2, -⟩ := hl
    have hj := mpd_lt hm
    rcases xZ_1 j hj hm with z | z | z
    · have := l1 z
      rw [xZ_z (by omega)] at this; omega
    · exact z
    · have := l2 z.1 z.2
      rw [xZ_z (by omega)] at this; omega
  · rw [xZ_z (by omega)] at ht; omega
  · rw [xZ_z (by omega)] at hl; omega
theorem np_z {w : Nat → Int} (h : ∀ e : Nat, e < 10 → w (1120 + e) = 0) : ∀ n, n ≤ 10 → np w n = 0
  | 0, _ => rfl
  | n + 1, hn => by unfold np; rw [np_z h n (by omega), h n (by omega)]; rfl
theorem sm_zz {f : Nat → Int} : ∀ n, (∀ a, a < n → f a = 0) → sm f n = 0
  | 0, _ => rfl
  | n + 1, h => by unfold sm; rw [sm_zz n (fun a ha => h a (by omega)), h n (by omega)]; rfl
theorem xZ_MV : MV xZ (xZ 401) := by
  have e : np (xZ 401) 10 = 0 := np_z (fun e he => xZ_z (by omega)) 10 (by omega)
  obtain ⟨v1, v2, -⟩ := xZ_V
  refine ⟨by rw [e]; exact v1, fun a s ha hs => ⟨?_, fun p _ hp => v2 a ha _ (by omega)⟩, fun x hx hn => ?_⟩
  · have : mvs xZ a s 11 = 0 := sm_zz 11 (fun p hp => v2 a ha _ (by omega))
    rw [this, xZ_z (by omega)]; rfl
  · rw [xZ_z (by omega)] at hn; omega
theorem xZ_I : Inv 0 (xZ 401) := by
  have kg := KQ_ge (xZ 401)
  refine ⟨⟨?_, fun a ha => ?_, ⟨fun s hs => ?_, fun k hk => ?_⟩, ⟨fun a s ha hs => ?_, fun s hs => ?_⟩, fun i hi => ⟨fun hl => ?_, fun _ => ?_⟩, fun t ht => ⟨fun hl => ?_, fun _ => ?_⟩, fun k hk hl => ?_, fun l hl hc => ?_, fun e he => ⟨fun hl => ?_, fun _ => ?_, ?_, ?_, fun _ => ⟨fun a ha => ?_, fun t ht => ?_⟩, fun a ha => ?_, fun t ht => ?_⟩⟩, fun e he hl => ?_, fun a ha => ?_⟩
  · unfold IC
    simp (disch := omega) only [xZ_z]; omega
  · simp (disch := omega) only [xZ_z]
    exact ⟨by omega, Or.inl rfl, Or.inl rfl, Or.inl rfl, by omega, fun z => by omega, fun z => by omega⟩
  · simp (disch := omega) only [xZ_z]; omega
  · rw [xZ_w _ (by omega)]; split <;> omega
  · simp (disch := omega) only [xZ_z]; exact ⟨by omega, by omega, fun _ => trivial, fun _ => trivial⟩
  · refine ⟨?_, ?_⟩
    · rw [sm_zz 10 (fun a ha => xZ_z (by omega)), xZ_z (by omega)]
    · rw [xZ_z (by omega)]; omega
  · rw [xZ_z (by omega)] at hl; omega
  · simp (disch := omega) only [xZ_z]; exact ⟨trivial, trivial, trivial⟩
  · rw [xZ_z (by omega)] at hl; omega
  · simp (disch := omega) only [xZ_z]; exact ⟨trivial, trivial⟩
  · rw [xZ_z (by omega)] at hl; omega
  · rw [xZ_z (by omega)] at hc; omega
  · rw [xZ_z (by omega)] at hl; omega
  · simp (disch := omega) only [xZ_z]; exact ⟨trivial, trivial⟩
  · rw [xZ_z (by omega)]; exact Or.inl rfl
  · rw [xZ_z (by omega)]; exact Or.inl rfl
  · simp (disch := omega) only [xZ_z]; exact ⟨trivial, trivial⟩
  · exact xZ_z (by omega)
  · simp (disch := omega) only [xZ_z]; omega
  · simp (disch := omega) only [xZ_z]; exact ⟨by omega, by omega, fun _ => trivial⟩
  · rw [xZ_z (by omega)] at hl; omega
  · simp (disch := omega) only [xZ_z]; omega
theorem rel_0 : Rel xZ 0 := by
  obtain ⟨v1, v2, v3, v4, v5⟩ := xZ_V
  exact ⟨xZ_R, xZ_MV, xZ_I, v3, v4, Or.inl v5, xZ_C.2.2.2, fun z => by rw [v5] at z; omega⟩
