abbrev uL_limit : xU := (RL, cL_limit, 4, (some .int), tableOf [(0, 8, 11, 13)], "limit")
theorem bL_limit : xYW yL_limit cL_limit 4 (some .int) [(0, 8, 11, 13)] 3 := ⟨xq_1447, xq_130, xq_1448, ⟨by decide +kernel, by decide +kernel, by decide +kernel⟩, by decide⟩
theorem mL_limit {l : Launch} {G : xG} (hl : l.stackTraces = false) (x0 : Nat) (h0 : xOb 11 x0) (x1 : Int) (h1 : R32 x1) (x2 : Nat) (h2 : xAn 1 (xln x2) x2) (M : xM) (hM : xcan M) : CmW l G yL_limit cL_limit 4 (some .int) [(0, 8, 11, 13)] 4 0 1 6 [.ref x0, iv x1, .ref x2] M (fL_limit x0 x1 x2 M) := by
  refine xcmw_of (u := uL_limit) (ls := [some (.ref x0), some (iv x1), some (.ref x2), none]) 1 hl rfl (by decide +kernel) (Nat.le_of_ble_eq_true rfl) rfl ?_
  unfold fL_limit
  refine xg_aload_n dL_limit_0 (Eq.refl 1) rfl ?_
  refine xg_iconst dL_limit_1 (Eq.refl 2) ?_
  refine xg_aload_n dL_limit_2 (Eq.refl 3) rfl ?_
  refine xg_iload_n dL_limit_3 (Eq.refl 4) rfl ?_
  refine xg_callVC_J (kc := 0) (ks := 0) (st := [iv 0, .ref x2]) (mX11_limit hl x0 h0 x1 h1 M hM) bX11_limit xcl11 h0 rfl xq_1449 rfl (by decide) (Nat.le_of_ble_eq_true rfl) dL_limit_4 (Eq.refl 7) rfl (by decide) (by decide) ?_ ?_
  · intro z1 M2 hz1 hM2
    refine xg_last h2 dL_limit_7 (Eq.refl 8) hM2 hz1 ?_
    intro M3 hM3
    refine xg_goto (tgt := 14) dL_limit_8 (by decide) ?_
    refine xg_iconst dL_limit_14 (Eq.refl 15) ?_
    exact xg_iret rfl dL_limit_15 rfl hM3 (by decide)
  · intro e M4 he hM4
    have he3 : e = 0 ∨ e = 1 ∨ e = 2 := by omega
    rcases he3 with rfl | rfl | rfl
    · refine xgx_c0 ?_
      refine xgx_catch (pre := tableOf []) (suf := tableOf []) (x := ⟨0, 8, 11, 13⟩) (j := 3) (ln := 1) rfl (fun z hz => by cases hz) (by decide) (by decide) (by decide) xq_132 (by decide) (Or.inr ⟨3, rfl, dL_limit_11, rfl⟩) ?_
      show Gv _ _ _ _ _ _ _ 12 _ _ _ _
      refine xg_iconst dL_limit_12 (Eq.refl 13) ?_
      exact xg_iret rfl dL_limit_13 rfl hM4 (by decide)
    · exact xgx_none
    · exact xgx_none
abbrev uL_isSound : xU := (RL, cL_isSound, 4, (some .int), tableOf [(0, 16, 19, 13)], "isSound")
theorem bL_isSound : xYW yL_isSound cL_isSound 4 (some .int) [(0, 16, 19, 13)] 3 := ⟨xq_1459, xq_130, xq_1460, ⟨by decide +kernel, by decide +kernel, by decide +kernel⟩, by decide⟩
theorem gL_isSound_15 {l : Launch} {G : xG} (hl : l.stackTraces = false) (s0 : Int) (hs0 : R64 s0) (s1 : Int) (hs1 : B01 s1) (s2 : Nat) (hs2 : xAn 1 (xln s2) s2) (M : xM) (hM : xcan M) : Gv l G uL_isSound 5 0 0 0 15 [none, none, none, none] [jv s0, iv s1, .ref s2] M (fL_isSound_15 s0 s1 s2 M) := by
  unfold fL_isSound_15
  refine xg_last hs2 dL_isSound_15 (Eq.refl 16) hM hs0 ?_
  intro M1 hM1
  refine xg_goto (tgt := 22) dL_isSound_16 (by decide) ?_
  refine xg_iconst dL_isSound_22 (Eq.refl 23) ?_
  exact xg_iret rfl dL_isSound_23 rfl hM1 (by decide)
theorem mL_isSound {l : Launch} {G : xG} (hl : l.stackTraces = false) (x0 : Nat) (h0 : xOb 11 x0) (x1 : Int) (h1 : R32 x1) (x2 : Nat) (h2 : xAn 1 (xln x2) x2) (M : xM) (hM : xcan M) : CmW l G yL_isSound cL_isSound 4 (some .int) [(0, 16, 19, 13)] 5 0 1 6 [.ref x0, iv x1, .ref x2] M (fL_isSound x0 x1 x2 M) := by
  refine xcmw_of (u := uL_isSound) (ls := [some (.ref x0), some (iv x1), some (.ref x2), none]) 1 hl rfl (by decide +kernel) (Nat.le_of_ble_eq_true rfl) rfl ?_
  unfold fL_isSound
  refine xg_aload_n dL_isSound_0 (Eq.refl 1) rfl ?_
  refine xg_iconst dL_isSound_1 (Eq.refl 2) ?_
  refine xg_aload_n dL_isSound_2 (Eq.refl 3) rfl ?_
  refine xg_iload_n dL_isSound_3 (Eq.refl 4) rfl ?_
  refine xg_callVC_Z (kc := 0) (ks := 0) (st := [iv 0, .ref x2]) (mX11_isSound hl x0 h0 x1 h1 M hM) bX11_isSound xcl11 h0 rfl xq_1461 rfl (by decide) (Nat.le_of_ble_eq_true rfl) dL_isSound_4 (Eq.refl 7) rfl (by decide) (by decide) ?_ ?_
  · intro z1 M2 hz1 hM2
    refine xg_if_eq (tgt := 14) dL_isSound_7 (Eq.refl 10) (by decide) (B01.r hz1) ?_ ?_
    · refine xg_lconst (z := 0) dL_isSound_14 (Eq.refl 15) rfl ?_
      exact xg_jump (gL_isSound_15 hl 0 (by decide) 0 (by decide) x2 h2 M2 hM2) (xsb_n (xsb_n (xsb_n (xsb_n xsb_0)))) (by decide) (by decide)
    · refine xg_lconst (z := 1) dL_isSound_10 (Eq.refl 11) rfl ?_
      refine xg_goto (tgt := 15) dL_isSound_11 (by decide) ?_
      exact xg_jump (gL_isSound_15 hl 1 (by decide) 0 (by decide) x2 h2 M2 hM2) (xsb_n (xsb_n (xsb_n (xsb_n xsb_0)))) (by decide) (by decide)
  · intro e M3 he hM3
    have he3 : e = 0 ∨ e = 1 ∨ e = 2 := by omega
    rcases he3 with rfl | rfl | rfl
    · refine xgx_c0 ?_
      refine xgx_catch (pre := tableOf []) (suf := tableOf []) (x := ⟨0, 16, 19, 13⟩) (j := 3) (ln := 1) rfl (fun z hz => by cases hz) (by decide) (by decide) (by decide) xq_132 (by decide) (Or.inr ⟨3, rfl, dL_isSound_19, rfl⟩) ?_
      show Gv _ _ _ _ _ _ _ 20 _ _ _ _
      refine xg_iconst dL_isSound_20 (Eq.refl 21) ?_
      exact xg_iret rfl dL_isSound_21 rfl hM3 (by decide)
    · exact xgx_none
    · exact xgx_none
abbrev uL_ledger : xU := (RL, cL_ledger, 4, (some .int), tableOf [(0, 8, 11, 13)], "ledger")
theorem bL_ledger : xYW yL_ledger cL_ledger 4 (some .int) [(0, 8, 11, 13)] 3 := ⟨xq_1483, xq_130, xq_1484, ⟨by decide +kernel, by decide +kernel, by decide +kernel⟩, by decide⟩
theorem mL_ledger {l : Launch} {G : xG} (hl : l.stackTraces = false) (x0 : Nat) (h0 : xOb 11 x0) (x1 : Int) (h1 : R32 x1) (x2 : Nat) (h2 : xAn 1 (xln x2) x2) (M : xM) (hM : xcan M) : CmW l G yL_ledger cL_ledger 4 (some .int) [(0, 8, 11, 13)] 4 0 1 6 [.ref x0, iv x1, .ref x2] M (fL_ledger x0 x1 x2 M) := by
  refine xcmw_of (u := uL_ledger) (ls := [some (.ref x0), some (iv x1), some (.ref x2), none]) 1 hl rfl (by decide +kernel) (Nat.le_of_ble_eq_true rfl) rfl ?_
  unfold fL_ledger
  refine xg_aload_n dL_ledger_0 (Eq.refl 1) rfl ?_
  refine xg_iconst dL_ledger_1 (Eq.refl 2) ?_
  refine xg_aload_n dL_ledger_2 (Eq.refl 3) rfl ?_
  refine xg_iload_n dL_ledger_3 (Eq.refl 4) rfl ?_
  refine xg_callVC_J (kc := 0) (ks := 0) (st := [iv 0, .ref x2]) (mX11_ledger hl x0 h0 x1 h1 M hM) bX11_ledger xcl11 h0 rfl xq_1485 rfl (by decide) (Nat.le_of_ble_eq_true rfl) dL_ledger_4 (Eq.refl 7) rfl (by decide) (by decide) ?_ ?_
  · intro z1 M2 hz1 hM2
    refine xg_last h2 dL_ledger_7 (Eq.refl 8) hM2 hz1 ?_
    intro M3 hM3
    refine xg_goto (tgt := 14) dL_ledger_8 (by decide) ?_
    refine xg_iconst dL_ledger_14 (Eq.refl 15) ?_
    exact xg_iret rfl dL_ledger_15 rfl hM3 (by decide)
  · intro e M4 he hM4
    have he3 : e = 0 ∨ e = 1 ∨ e = 2 := by omega
    rcases he3 with rfl | rfl | rfl
    · refine xgx_c0 ?_
      refine xgx_catch (pre := tableOf []) (suf := tableOf []) (x := ⟨0, 8, 11, 13⟩) (j := 3) (ln := 1) rfl (fun z hz => by cases hz) (by decide) (by decide) (by decide) xq_132 (by decide) (Or.inr ⟨3, rfl, dL_ledger_11, rfl⟩) ?_
      show Gv _ _ _ _ _ _ _ 12 _ _ _ _
      refine xg_iconst dL_ledger_12 (Eq.refl 13) ?_
      exact xg_iret rfl dL_ledger_13 rfl hM4 (by decide)
    · exact xgx_none
    · exact xgx_none
abbrev uL_messages : xU := (RL, cL_messages, 4, (some .int), tableOf [(0, 9, 12, 13)], "messages")
theorem bL_messages : xYW yL_messages cL_messages 4 (some .int) [(0, 9, 12, 13)] 3 := ⟨xq_1495, xq_130, xq_1496, ⟨by decide +kernel, by decide +kernel, by decide +kernel⟩, by decide⟩
theorem mL_messages {l : Launch} {G : xG} (hl : l.stackTraces = false) (x0 : Nat) (h0 : xOb 11 x0) (x1 : Int) (h1 : R32 x1) (x2 : Nat) (h2 : xAn 1 (xln x2) x2) (M : xM) (hM : xcan M) : CmW l G yL_messages cL_messages 4 (some .int) [(0, 9, 12, 13)] 4 0 1 6 [.ref x0, iv x1, .ref x2] M (fL_messages x0 x1 x2 M) := by
  refine xcmw_of (u := uL_messages) (ls := [some (.ref x0), some (iv x1), some (.ref x2), none]) 1 hl rfl (by decide +kernel) (Nat.le_of_ble_eq_true rfl) rfl ?_
  unfold fL_messages
  refine xg_aload_n dL_messages_0 (Eq.refl 1) rfl ?_
  refine xg_iconst dL_messages_1 (Eq.refl 2) ?_
  refine xg_aload_n dL_messages_2 (Eq.refl 3) rfl ?_
  refine xg_iload_n dL_messages_3 (Eq.refl 4) rfl ?_
  refine xg_callVC_I (kc := 0) (ks := 0) (st := [iv 0, .ref x2]) (mX11_messages hl x0 h0 x1 h1 M hM) bX11_messages xcl11 h0 rfl xq_1497 rfl (by decide) (Nat.le_of_ble_eq_true rfl) dL_messages_4 (Eq.refl 7) rfl (by decide) (by decide) ?_ ?_
  · intro z1 M2 hz1 hM2
    refine xg_i2l dL_messages_7 (Eq.refl 8) hz1 ?_
    refine xg_last h2 dL_messages_8 (Eq.refl 9) hM2 (R32.j hz1) ?_
    intro M3 hM3
    refine xg_goto (tgt := 15) dL_messages_9 (by decide) ?_
    refine xg_iconst dL_messages_15 (Eq.refl 16) ?_
    exact xg_iret rfl dL_messages_16 rfl hM3 (by decide)
  · intro e M4 he hM4
    have he3 : e = 0 ∨ e = 1 ∨ e = 2 := by omega
    rcases he3 with rfl | rfl | rfl
    · refine xgx_c0 ?_
      refine xgx_catch (pre := tableOf []) (suf := tableOf []) (x := ⟨0, 9, 12, 13⟩) (j := 3) (ln := 1) rfl (fun z hz => by cases hz) (by decide) (by decide) (by decide) xq_132 (by decide) (Or.inr ⟨3, rfl, dL_messages_12, rfl⟩) ?_
      show Gv _ _ _ _ _ _ _ 13 _ _ _ _
      refine xg_iconst dL_messages_13 (Eq.refl 14) ?_
      exact xg_iret rfl dL_messages_14 rfl hM4 (by decide)
    · exact xgx_none
    · exact xgx_none
abbrev uL_alleged : xU := (RL, cL_alleged, 4, (some .int), tableOf [(0, 9, 12, 13)], "alleged")
theorem bL_alleged : xYW yL_alleged cL_alleged 4 (some .int) [(0, 9, 12, 13)] 3 := ⟨xq_1510, xq_130, xq_1511, ⟨by decide +kernel, by decide +kernel, by decide +kernel⟩, by decide⟩
theorem mL_alleged {l : Launch} {G : xG} (hl : l.stackTraces = false) (x0 : Nat) (h0 : xOb 11 x0) (x1 : Int) (h1 : R32 x1) (x2 : Nat) (h2 : xAn 1 (xln x2) x2) (M : xM) (hM : xcan M) : CmW l G yL_alleged cL_alleged 4 (some .int) [(0, 9, 12, 13)] 4 0 1 6 [.ref x0, iv x1, .ref x2] M (fL_alleged x0 x1 x2 M) := by
  refine xcmw_of (u := uL_alleged) (ls := [some (.ref x0), some (iv x1), some (.ref x2), none]) 1 hl rfl (by decide +kernel) (Nat.le_of_ble_eq_true rfl) rfl ?_
  unfold fL_alleged
  refine xg_aload_n dL_alleged_0 (Eq.refl 1) rfl ?_
  refine xg_iconst dL_alleged_1 (Eq.refl 2) ?_
  refine xg_aload_n dL_alleged_2 (Eq.refl 3) rfl ?_
  refine xg_iload_n dL_alleged_3 (Eq.refl 4) rfl ?_
  refine xg_callVC_I (kc := 0) (ks := 0) (st := [iv 0, .ref x2]) (mX11_alleged hl x0 h0 x1 h1 M hM) bX11_alleged xcl11 h0 rfl xq_1512 rfl (by decide) (Nat.le_of_ble_eq_true rfl) dL_alleged_4 (Eq.refl 7) rfl (by decide) (by decide) ?_ ?_
  · intro z1 M2 hz1 hM2
    refine xg_i2l dL_alleged_7 (Eq.refl 8) hz1 ?_
    refine xg_last h2 dL_alleged_8 (Eq.refl 9) hM2 (R32.j hz1) ?_
    intro M3 hM3
    refine xg_goto (tgt := 15) dL_alleged_9 (by decide) ?_
    refine xg_iconst dL_alleged_15 (Eq.refl 16) ?_
    exact xg_iret rfl dL_alleged_16 rfl hM3 (by decide)
  · intro e M4 he hM4
    have he3 : e = 0 ∨ e = 1 ∨ e = 2 := by omega
    rcases he3 with rfl | rfl | rfl
    · refine xgx_c0 ?_
      refine xgx_catch (pre := tableOf []) (suf := tableOf []) (x := ⟨0, 9, 12, 13⟩) (j := 3) (ln := 1) rfl (fun z hz => by cases hz) (by decide) (by decide) (by decide) xq_132 (by decide) (Or.inr ⟨3, rfl, dL_alleged_12, rfl⟩) ?_
      show Gv _ _ _ _ _ _ _ 13 _ _ _ _
      refine xg_iconst dL_alleged_13 (Eq.refl 14) ?_
      exact xg_iret rfl dL_alleged_14 rfl hM4 (by decide)
    · exact xgx_none
    · exact xgx_none
abbrev uL_status : xU := (RL, cL_status, 4, (some .int), tableOf [(0, 9, 12, 13)], "status")
theorem bL_status : xYW yL_status cL_status 4 (some .int) [(0, 9, 12, 13)] 3 := ⟨xq_1521, xq_130, xq_1522, ⟨by decide +kernel, by decide +kernel, by decide +kernel⟩, by decide⟩
theorem mL_status {l : Launch} {G : xG} (hl : l.stackTraces = false) (x0 : Nat) (h0 : xOb 11 x0) (x1 : Int) (h1 : R32 x1) (x2 : Nat) (h2 : xAn 1 (xln x2) x2) (M : xM) (hM : xcan M) : CmW l G yL_status cL_status 4 (some .int) [(0, 9, 12, 13)] 4 0 1 6 [.ref x0, iv x1, .ref x2] M (fL_status x0 x1 x2 M) := by
  refine xcmw_of (u := uL_status) (ls := [some (.ref x0), some (iv x1), some (.ref x2), none]) 1 hl rfl (by decide +kernel) (Nat.le_of_ble_eq_true rfl) rfl ?_
  unfold fL_status
  refine xg_aload_n dL_status_0 (Eq.refl 1) rfl ?_
  refine xg_iconst dL_status_1 (Eq.refl 2) ?_
  refine xg_aload_n dL_status_2 (Eq.refl 3) rfl ?_
  refine xg_iload_n dL_status_3 (Eq.refl 4) rfl ?_
  refine xg_callVC_I (kc := 0) (ks := 0) (st := [iv 0, .ref x2]) (mX11_status hl x0 h0 x1 h1 M hM) bX11_status xcl11 h0 rfl xq_1523 rfl (by decide) (Nat.le_of_ble_eq_true rfl) dL_status_4 (Eq.refl 7) rfl (by decide) (by decide) ?_ ?_
  · intro z1 M2 hz1 hM2
    refine xg_i2l dL_status_7 (Eq.refl 8) hz1 ?_
    refine xg_last h2 dL_status_8 (Eq.refl 9) hM2 (R32.j hz1) ?_
    intro M3 hM3
    refine xg_goto (tgt := 15) dL_status_9 (by decide) ?_
    refine xg_iconst dL_status_15 (Eq.refl 16) ?_
    exact xg_iret rfl dL_status_16 rfl hM3 (by decide)
  · intro e M4 he hM4
    have he3 : e = 0 ∨ e = 1 ∨ e = 2 := by omega
    rcases he3 with rfl | rfl | rfl
    · refine xgx_c0 ?_
      refine xgx_catch (pre := tableOf []) (suf := tableOf []) (x := ⟨0, 9, 12, 13⟩) (j := 3) (ln := 1) rfl (fun z hz => by cases hz) (by decide) (by decide) (by decide) xq_132 (by decide) (Or.inr ⟨3, rfl, dL_status_12, rfl⟩) ?_
      show Gv _ _ _ _ _ _ _ 13 _ _ _ _
      refine xg_iconst dL_status_13 (Eq.refl 14) ?_
      exact xg_iret rfl dL_status_14 rfl hM4 (by decide)
    · exact xgx_none
    · exact xgx_none
abbrev uL_tradeOf : xU := (RL, cL_tradeOf, 4, (some .int), tableOf [(0, 9, 12, 13)], "tradeOf")
theorem bL_tradeOf : xYW yL_tradeOf cL_tradeOf 4 (some .int) [(0, 9, 12, 13)] 3 := ⟨xq_1532, xq_130, xq_1533, ⟨by decide +kernel, by decide +kernel, by decide +kernel⟩, by decide⟩
theorem mL_tradeOf {l : Launch} {G : xG} (hl : l.stackTraces = false) (x0 : Nat) (h0 : xOb 11 x0) (x1 : Int) (h1 : R32 x1) (x2 : Nat) (h2 : xAn 1 (xln x2) x2) (M : xM) (hM : xcan M) : CmW l G yL_tradeOf cL_tradeOf 4 (some .int) [(0, 9, 12, 13)] 4 0 1 6 [.ref x0, iv x1, .ref x2] M (fL_tradeOf x0 x1 x2 M) := by
  refine xcmw_of (u := uL_tradeOf) (ls := [some (.ref x0), some (iv x1), some (.ref x2), none]) 1 hl rfl (by decide +kernel) (Nat.le_of_ble_eq_true rfl) rfl ?_
  unfold fL_tradeOf
  refine xg_aload_n dL_tradeOf_0 (Eq.refl 1) rfl ?_
  refine xg_iconst dL_tradeOf_1 (Eq.refl 2) ?_
  refine xg_aload_n dL_tradeOf_2 (Eq.refl 3) rfl ?_
  refine xg_iload_n dL_tradeOf_3 (Eq.refl 4) rfl ?_
  refine xg_callVC_I (kc := 0) (ks := 0) (st := [iv 0, .ref x2]) (mX11_tradeOf hl x0 h0 x1 h1 M hM) bX11_tradeOf xcl11 h0 rfl xq_1534 rfl (by decide) (Nat.le_of_ble_eq_true rfl) dL_tradeOf_4 (Eq.refl 7) rfl (by decide) (by decide) ?_ ?_
  · intro z1 M2 hz1 hM2
    refine xg_i2l dL_tradeOf_7 (Eq.refl 8) hz1 ?_
    refine xg_last h2 dL_tradeOf_8 (Eq.refl 9) hM2 (R32.j hz1) ?_
    intro M3 hM3
    refine xg_goto (tgt := 15) dL_tradeOf_9 (by decide) ?_
    refine xg_iconst dL_tradeOf_15 (Eq.refl 16) ?_
    exact xg_iret rfl dL_tradeOf_16 rfl hM3 (by decide)
  · intro e M4 he hM4
    have he3 : e = 0 ∨ e = 1 ∨ e = 2 := by omega
    rcases he3 with rfl | rfl | rfl
    · refine xgx_c0 ?_
      refine xgx_catch (pre := tableOf []) (suf := tableOf []) (x := ⟨0, 9, 12, 13⟩) (j := 3) (ln := 1) rfl (fun z hz => by cases hz) (by decide) (by decide) (by decide) xq_132 (by decide) (Or.inr ⟨3, rfl, dL_tradeOf_12, rfl⟩) ?_
      show Gv _ _ _ _ _ _ _ 13 _ _ _ _
      refine xg_iconst dL_tradeOf_13 (Eq.refl 14) ?_
      exact xg_iret rfl dL_tradeOf_14 rfl hM4 (by decide)
    · exact xgx_none
    · exact xgx_none
abbrev uL_tradeUnits : xU := (RL, cL_tradeUnits, 4, (some .int), tableOf [(0, 8, 11, 13)], "tradeUnits")
theorem bL_tradeUnits : xYW yL_tradeUnits cL_tradeUnits 4 (some .int) [(0, 8, 11, 13)] 3 := ⟨xq_1543, xq_130, xq_1544, ⟨by decide +kernel, by decide +kernel, by decide +kernel⟩, by decide⟩
theorem mL_tradeUnits {l : Launch} {G : xG} (hl : l.stackTraces = false) (x0 : Nat) (h0 : xOb 11 x0) (x1 : Int) (h1 : R32 x1) (x2 : Nat) (h2 : xAn 1 (xln x2) x2) (M : xM) (hM : xcan M) : CmW l G yL_tradeUnits cL_tradeUnits 4 (some .int) [(0, 8, 11, 13)] 4 0 1 6 [.ref x0, iv x1, .ref x2] M (fL_tradeUnits x0 x1 x2 M) := by
  refine xcmw_of (u := uL_tradeUnits) (ls := [some (.ref x0), some (iv x1), some (.ref x2), none]) 1 hl rfl (by decide +kernel) (Nat.le_of_ble_eq_true rfl) rfl ?_
  unfold fL_tradeUnits
  refine xg_aload_n dL_tradeUnits_0 (Eq.refl 1) rfl ?_
  refine xg_iconst dL_tradeUnits_1 (Eq.refl 2) ?_
  refine xg_aload_n dL_tradeUnits_2 (Eq.refl 3) rfl ?_
  refine xg_iload_n dL_tradeUnits_3 (Eq.refl 4) rfl ?_
  refine xg_callVC_J (kc := 0) (ks := 0) (st := [iv 0, .ref x2]) (mX11_tradeUnits hl x0 h0 x1 h1 M hM) bX11_tradeUnits xcl11 h0 rfl xq_1545 rfl (by decide) (Nat.le_of_ble_eq_true rfl) dL_tradeUnits_4 (Eq.refl 7) rfl (by decide) (by decide) ?_ ?_
  · intro z1 M2 hz1 hM2
    refine xg_last h2 dL_tradeUnits_7 (Eq.refl 8) hM2 hz1 ?_
    intro M3 hM3
    refine xg_goto (tgt := 14) dL_tradeUnits_8 (by decide) ?_
    refine xg_iconst dL_tradeUnits_14 (Eq.refl 15) ?_
    exact xg_iret rfl dL_tradeUnits_15 rfl hM3 (by decide)
  · intro e M4 he hM4
    have he3 : e = 0 ∨ e = 1 ∨ e = 2 := by omega
    rcases he3 with rfl | rfl | rfl
    · refine xgx_c0 ?_
      refine xgx_catch (pre := tableOf []) (suf := tableOf []) (x := ⟨0, 8, 11, 13⟩) (j := 3) (ln := 1) rfl (fun z hz => by cases hz) (by decide) (by decide) (by decide) xq_132 (by decide) (Or.inr ⟨3, rfl, dL_tradeUnits_11, rfl⟩) ?_
      show Gv _ _ _ _ _ _ _ 12 _ _ _ _
      refine xg_iconst dL_tradeUnits_12 (Eq.refl 13) ?_
      exact xg_iret rfl dL_tradeUnits_13 rfl hM4 (by decide)
    · exact xgx_none
    · exact xgx_none
abbrev uL_tradeAmount : xU := (RL, cL_tradeAmount, 4, (some .int), tableOf [(0, 8, 11, 13)], "tradeAmount")
theorem bL_tradeAmount : xYW yL_tradeAmount cL_tradeAmount 4 (some .int) [(0, 8, 11, 13)] 3 := ⟨xq_1555, xq_130, xq_1556, ⟨by decide +kernel, by decide +kernel, by decide +kernel⟩, by decide⟩
theorem mL_tradeAmount {l : Launch} {G : xG} (hl : l.stackTraces = false) (x0 : Nat) (h0 : xOb 11 x0) (x1 : Int) (h1 : R32 x1) (x2 : Nat) (h2 : xAn 1 (xln x2) x2) (M : xM) (hM : xcan M) : CmW l G yL_tradeAmount cL_tradeAmount 4 (some .int) [(0, 8, 11, 13)] 4 0 1 6 [.ref x0, iv x1, .ref x2] M (fL_tradeAmount x0 x1 x2 M) := by
  refine xcmw_of (u := uL_tradeAmount) (ls := [some (.ref x0), some (iv x1), some (.ref x2), none]) 1 hl rfl (by decide +kernel) (Nat.le_of_ble_eq_true rfl) rfl ?_
  unfold fL_tradeAmount
  refine xg_aload_n dL_tradeAmount_0 (Eq.refl 1) rfl ?_
  refine xg_iconst dL_tradeAmount_1 (Eq.refl 2) ?_
  refine xg_aload_n dL_tradeAmount_2 (Eq.refl 3) rfl ?_
  refine xg_iload_n dL_tradeAmount_3 (Eq.refl 4) rfl ?_
  refine xg_callVC_J (kc := 0) (ks := 0) (st := [iv 0, .ref x2]) (mX11_tradeAmount hl x0 h0 x1 h1 M hM) bX11_tradeAmount xcl11 h0 rfl xq_1557 rfl (by decide) (Nat.le_of_ble_eq_true rfl) dL_tradeAmount_4 (Eq.refl 7) rfl (by decide) (by decide) ?_ ?_
  · intro z1 M2 hz1 hM2
    refine xg_last h2 dL_tradeAmount_7 (Eq.refl 8) hM2 hz1 ?_
    intro M3 hM3
    refine xg_goto (tgt := 14) dL_tradeAmount_8 (by decide) ?_
    refine xg_iconst dL_tradeAmount_14 (Eq.refl 15) ?_
    exact xg_iret rfl dL_tradeAmount_15 rfl hM3 (by decide)
  · intro e M4 he hM4
    have he3 : e = 0 ∨ e = 1 ∨ e = 2 := by omega
    rcases he3 with rfl | rfl | rfl
    · refine xgx_c0 ?_
      refine xgx_catch (pre := tableOf []) (suf := tableOf []) (x := ⟨0, 8, 11, 13⟩) (j := 3) (ln := 1) rfl (fun z hz => by cases hz) (by decide) (by decide) (by decide) xq_132 (by decide) (Or.inr ⟨3, rfl, dL_tradeAmount_11, rfl⟩) ?_
      show Gv _ _ _ _ _ _ _ 12 _ _ _ _
      refine xg_iconst dL_tradeAmount_12 (Eq.refl 13) ?_
      exact xg_iret rfl dL_tradeAmount_13 rfl hM4 (by decide)
    · exact xgx_none
    · exact xgx_none
abbrev uL_age : xU := (RL, cL_age, 4, (some .int), tableOf [(0, 9, 12, 13)], "age")
theorem bL_age : xYW yL_age cL_age 4 (some .int) [(0, 9, 12, 13)] 3 := ⟨xq_1567, xq_130, xq_1568, ⟨by decide +kernel, by decide +kernel, by decide +kernel⟩, by decide⟩
theorem mL_age {l : Launch} {G : xG} (hl : l.stackTraces = false) (x0 : Nat) (h0 : xOb 11 x0) (x1 : Int) (h1 : R32 x1) (x2 : Nat) (h2 : xAn 1 (xln x2) x2) (M : xM) (hM : xcan M) : CmW l G yL_age cL_age 4 (some .int) [(0, 9, 12, 13)] 4 0 1 6 [.ref x0, iv x1, .ref x2] M (fL_age x0 x1 x2 M) := by
  refine xcmw_of (u := uL_age) (ls := [some (.ref x0), some (iv x1), some (.ref x2), none]) 1 hl rfl (by decide +kernel) (Nat.le_of_ble_eq_true rfl) rfl ?_
  unfold fL_age
  refine xg_aload_n dL_age_0 (Eq.refl 1) rfl ?_
  refine xg_iconst dL_age_1 (Eq.refl 2) ?_
  refine xg_aload_n dL_age_2 (Eq.refl 3) rfl ?_
  refine xg_iload_n dL_age_3 (Eq.refl 4) rfl ?_
  refine xg_callVC_I (kc := 0) (ks := 0) (st := [iv 0, .ref x2]) (mX11_age hl x0 h0 x1 h1 M hM) bX11_age xcl11 h0 rfl xq_1569 rfl (by decide) (Nat.le_of_ble_eq_true rfl) dL_age_4 (Eq.refl 7) rfl (by decide) (by decide) ?_ ?_
  · intro z1 M2 hz1 hM2
    refine xg_i2l dL_age_7 (Eq.refl 8) hz1 ?_
    refine xg_last h2 dL_age_8 (Eq.refl 9) hM2 (R32.j hz1) ?_
    intro M3 hM3
    refine xg_goto (tgt := 15) dL_age_9 (by decide) ?_
    refine xg_iconst dL_age_15 (Eq.refl 16) ?_
    exact xg_iret rfl dL_age_16 rfl hM3 (by decide)
  · intro e M4 he hM4
    have he3 : e = 0 ∨ e = 1 ∨ e = 2 := by omega
    rcases he3 with rfl | rfl | rfl
    · refine xgx_c0 ?_
      refine xgx_catch (pre := tableOf []) (suf := tableOf []) (x := ⟨0, 9, 12, 13⟩) (j := 3) (ln := 1) rfl (fun z hz => by cases hz) (by decide) (by decide) (by decide) xq_132 (by decide) (Or.inr ⟨3, rfl, dL_age_12, rfl⟩) ?_
      show Gv _ _ _ _ _ _ _ 13 _ _ _ _
      refine xg_iconst dL_age_13 (Eq.refl 14) ?_
      exact xg_iret rfl dL_age_14 rfl hM4 (by decide)
    · exact xgx_none
    · exact xgx_none
abbrev uL_causer : xU := (RL, cL_causer, 4, (some .int), tableOf [(0, 9, 12, 13), (0, 9, 15, 17)], "causer")
theorem bL_causer : xYW yL_causer cL_causer 4 (some .int) [(0, 9, 12, 13), (0, 9, 15, 17)] 3 := ⟨xq_1579, xq_130, xq_1580, ⟨by decide +kernel, by decide +kernel, by decide +kernel⟩, by decide⟩
theorem mL_causer {l : Launch} {G : xG} (hl : l.stackTraces = false) (x0 : Nat) (h0 : xOb 11 x0) (x1 : Int) (h1 : R32 x1) (x2 : Nat) (h2 : xAn 1 (xln x2) x2) (M : xM) (hM : xcan M) : CmW l G yL_causer cL_causer 4 (some .int) [(0, 9, 12, 13), (0, 9, 15, 17)] 5 0 2 12 [.ref x0, iv x1, .ref x2] M (fL_causer x0 x1 x2 M) := by
  refine xcmw_of (u := uL_causer) (ls := [some (.ref x0), some (iv x1), some (.ref x2), none]) 1 hl rfl (by decide +kernel) (Nat.le_of_ble_eq_true rfl) rfl ?_
  unfold fL_causer
  refine xg_aload_n dL_causer_0 (Eq.refl 1) rfl ?_
  refine xg_iconst dL_causer_1 (Eq.refl 2) ?_
  refine xg_aload_n dL_causer_2 (Eq.refl 3) rfl ?_
  refine xg_iload_n dL_causer_3 (Eq.refl 4) rfl ?_
  refine xg_callVC_I (kc := 0) (ks := 0) (st := [iv 0, .ref x2]) (mX11_causer hl x0 h0 x1 h1 M hM) bX11_causer xcl11 h0 rfl xq_1581 rfl (by decide) (Nat.le_of_ble_eq_true rfl) dL_causer_4 (Eq.refl 7) rfl (by decide) (by decide) ?_ ?_
  · intro z1 M2 hz1 hM2
    refine xg_i2l dL_causer_7 (Eq.refl 8) hz1 ?_
    refine xg_last h2 dL_causer_8 (Eq.refl 9) hM2 (R32.j hz1) ?_
    intro M3 hM3
    refine xg_goto (tgt := 18) dL_causer_9 (by decide) ?_
    refine xg_iconst dL_causer_18 (Eq.refl 19) ?_
    exact xg_iret rfl dL_causer_19 rfl hM3 (by decide)
  · intro e M4 he hM4
    have he3 : e = 0 ∨ e = 1 ∨ e = 2 := by omega
    rcases he3 with rfl | rfl | rfl
    · refine xgx_c0 ?_
      refine xgx_catch (pre := tableOf []) (suf := tableOf [(0, 9, 15, 17)]) (x := ⟨0, 9, 12, 13⟩) (j := 3) (ln := 1) rfl (fun z hz => by cases hz) (by decide) (by decide) (by decide) xq_132 (by decide) (Or.inr ⟨3, rfl, dL_causer_12, rfl⟩) ?_
      show Gv _ _ _ _ _ _ _ 13 _ _ _ _
      refine xg_iconst dL_causer_13 (Eq.refl 14) ?_
      exact xg_iret rfl dL_causer_14 rfl hM4 (by decide)
    · exact xgx_none
    · refine xgx_c2 ?_
      refine xgx_catch (pre := tableOf [(0, 9, 12, 13)]) (suf := tableOf []) (x := ⟨0, 9, 15, 17⟩) (j := 3) (ln := 1) rfl (xpass1 (by decide) 0 xq_132 (by decide)) (by decide) (by decide) (by decide) xq_134 (by decide) (Or.inr ⟨3, rfl, dL_causer_15, rfl⟩) ?_
      show Gv _ _ _ _ _ _ _ 16 _ _ _ _
      refine xg_iconst dL_causer_16 (Eq.refl 17) ?_
      exact xg_iret rfl dL_causer_17 rfl hM4 (by decide)
abbrev uL_loan : xU := (RL, cL_loan, 4, (some .int), tableOf [(0, 8, 11, 13)], "loan")
theorem bL_loan : xYW yL_loan cL_loan 4 (some .int) [(0, 8, 11, 13)] 3 := ⟨xq_1600, xq_130, xq_1601, ⟨by decide +kernel, by decide +kernel, by decide +kernel⟩, by decide⟩
theorem mL_loan {l : Launch} {G : xG} (hl : l.stackTraces = false) (x0 : Nat) (h0 : xOb 11 x0) (x1 : Int) (h1 : R32 x1) (x2 : Nat) (h2 : xAn 1 (xln x2) x2) (M : xM) (hM : xcan M) : CmW l G yL_loan cL_loan 4 (some .int) [(0, 8, 11, 13)] 4 0 1 6 [.ref x0, iv x1, .ref x2] M (fL_loan x0 x1 x2 M) := by
  refine xcmw_of (u := uL_loan) (ls := [some (.ref x0), some (iv x1), some (.ref x2), none]) 1 hl rfl (by decide +kernel) (Nat.le_of_ble_eq_true rfl) rfl ?_
  unfold fL_loan
  refine xg_aload_n dL_loan_0 (Eq.refl 1) rfl ?_
  refine xg_iconst dL_loan_1 (Eq.refl 2) ?_
  refine xg_aload_n dL_loan_2 (Eq.refl 3) rfl ?_
  refine xg_iload_n dL_loan_3 (Eq.refl 4) rfl ?_
  refine xg_callVC_J (kc := 0) (ks := 0) (st := [iv 0, .ref x2]) (mX11_loan hl x0 h0 x1 h1 M hM) bX11_loan xcl11 h0 rfl xq_1602 rfl (by decide) (Nat.le_of_ble_eq_true rfl) dL_loan_4 (Eq.refl 7) rfl (by decide) (by decide) ?_ ?_
  · intro z1 M2 hz1 hM2
    refine xg_last h2 dL_loan_7 (Eq.refl 8) hM2 hz1 ?_
    intro M3 hM3
    refine xg_goto (tgt := 14) dL_loan_8 (by decide) ?_
    refine xg_iconst dL_loan_14 (Eq.refl 15) ?_
    exact xg_iret rfl dL_loan_15 rfl hM3 (by decide)
  · intro e M4 he hM4
    have he3 : e = 0 ∨ e = 1 ∨ e = 2 := by omega
    rcases he3 with rfl | rfl | rfl
    · refine xgx_c0 ?_
      refine xgx_catch (pre := tableOf []) (suf := tableOf []) (x := ⟨0, 8, 11, 13⟩) (j := 3) (ln := 1) rfl (fun z hz => by cases hz) (by decide) (by decide) (by decide) xq_132 (by decide) (Or.inr ⟨3, rfl, dL_loan_11, rfl⟩) ?_
      show Gv _ _ _ _ _ _ _ 12 _ _ _ _
      refine xg_iconst dL_loan_12 (Eq.refl 13) ?_
      exact xg_iret rfl dL_loan_13 rfl hM4 (by decide)
    · exact xgx_none
    · exact xgx_none
