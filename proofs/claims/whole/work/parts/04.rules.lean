section XRULES
variable {l : Launch} {G : xG} {u : xU} {d : Nat} {Qr : Option Value → xS → Prop} {Qx : Nat → xS → Prop} {kc ks pc : Nat} {ls : List (Option Value)} {st : List Value} {σ : xS}
theorem xcv_cat {ad : Nat → Nat} {v : Value} : (xcv ad v).category = v.category := by cases v <;> rfl
theorem xv_pure {pc' : Nat} {st' : List Value}
    (row : ∀ (p : Program) (e : Env) (s : State) (m : MethodId) (args : Array Value) (below : List Frame) (meth : Method) (c : Code) (R : Room) (H : Heap) (locs : List Loc) (cells slots : Nat) (Q : State → Prop) (lsA : Array Slot) (ad : Nat → Nat),
      p.tables.exec = Jvm.exec → c.code = u.2.1 → s.vm.findClass u.1 = some m.cls → (∀ w ∈ xw, w.before args s = true) → xLs lsA u.2.2.1 ad ls →
      W p l e R s m args below meth c H locs cells slots Q (F0 m pc' lsA (st'.map (xcv ad))) → W p l e R s m args below meth c H locs cells slots Q (F0 m pc lsA (st.map (xcv ad))))
    (K : Ev l G u d Qr Qx kc ks pc' ls st' σ) : Ev l G u d Qr Qx kc ks pc ls st σ := by
  intro p e s m args below meth c C n0 ad0 ad H locs cells slots mc ms lsA h1 h2 h3 h4 h5 h6 h7 h8
  have C' := C
  obtain ⟨hx, hb, -, -, hts, hown, -⟩ := C'
  exact row p e s m args below meth c _ H locs cells slots _ lsA ad hx hb hown hts h4 (K p e s m args below meth c C n0 ad0 ad H locs cells slots mc ms lsA h1 h2 h3 h4 h5 h6 h7 h8)
theorem xv_pure2 {q : Prop} {pc1 pc2 : Nat} {st1 st2 : List Value}
    (row : ∀ (p : Program) (e : Env) (s : State) (m : MethodId) (args : Array Value) (below : List Frame) (meth : Method) (c : Code) (R : Room) (H : Heap) (locs : List Loc) (cells slots : Nat) (Q : State → Prop) (lsA : Array Slot) (ad : Nat → Nat),
      p.tables.exec = Jvm.exec → c.code = u.2.1 →
      (q → W p l e R s m args below meth c H locs cells slots Q (F0 m pc1 lsA (st1.map (xcv ad)))) → (¬ q → W p l e R s m args below meth c H locs cells slots Q (F0 m pc2 lsA (st2.map (xcv ad)))) → W p l e R s m args below meth c H locs cells slots Q (F0 m pc lsA (st.map (xcv ad))))
    (K1 : q → Ev l G u d Qr Qx kc ks pc1 ls st1 σ) (K2 : ¬ q → Ev l G u d Qr Qx kc ks pc2 ls st2 σ) : Ev l G u d Qr Qx kc ks pc ls st σ := by
  intro p e s m args below meth c C n0 ad0 ad H locs cells slots mc ms lsA h1 h2 h3 h4 h5 h6 h7 h8
  have C' := C
  obtain ⟨hx, hb, -⟩ := C'
  exact row p e s m args below meth c _ H locs cells slots _ lsA ad hx hb (fun z => K1 z p e s m args below meth c C n0 ad0 ad H locs cells slots mc ms lsA h1 h2 h3 h4 h5 h6 h7 h8) (fun z => K2 z p e s m args below meth c C n0 ad0 ad H locs cells slots mc ms lsA h1 h2 h3 h4 h5 h6 h7 h8)
theorem xv_iconst {n : Int} {v : Int32} (hd : decode u.2.1 pc = .ok (.iconst n, 1)) (hv : Int32.ofInt n = v) (K : Ev l G u d Qr Qx kc ks (pc + 1) ls (.int v :: st) σ) : Ev l G u d Qr Qx kc ks pc ls (st) σ := xv_pure (fun p e s m args below meth c R H locs cells slots Q lsA ad hx hb hown hts hl k => lv_iconst hx hb hd hv k) K
theorem xv_bipush {n : Int} {v : Int32} (hd : decode u.2.1 pc = .ok (.bipush n, 2)) (hv : (Int8.ofInt n).toInt32 = v) (K : Ev l G u d Qr Qx kc ks (pc + 2) ls (.int v :: st) σ) : Ev l G u d Qr Qx kc ks pc ls (st) σ := xv_pure (fun p e s m args below meth c R H locs cells slots Q lsA ad hx hb hown hts hl k => lv_bipush hx hb hd hv k) K
theorem xv_sipush {n : Int} {v : Int32} (hd : decode u.2.1 pc = .ok (.sipush n, 3)) (hv : (Int16.ofInt n).toInt32 = v) (K : Ev l G u d Qr Qx kc ks (pc + 3) ls (.int v :: st) σ) : Ev l G u d Qr Qx kc ks pc ls (st) σ := xv_pure (fun p e s m args below meth c R H locs cells slots Q lsA ad hx hb hown hts hl k => lv_sipush hx hb hd hv k) K
theorem xv_lconst {n : Fin 2} {v : Int64} (hd : decode u.2.1 pc = .ok (.lconst n, 1)) (hv : Int64.ofNat (n : Nat) = v) (K : Ev l G u d Qr Qx kc ks (pc + 1) ls (.long v :: st) σ) : Ev l G u d Qr Qx kc ks pc ls (st) σ := xv_pure (fun p e s m args below meth c R H locs cells slots Q lsA ad hx hb hown hts hl k => lv_lconst hx hb hd hv k) K
theorem xv_dconst0  (hd : decode u.2.1 pc = .ok (.dconst 0, 1)) (K : Ev l G u d Qr Qx kc ks (pc + 1) ls (.double 0 :: st) σ) : Ev l G u d Qr Qx kc ks pc ls (st) σ := xv_pure (fun p e s m args below meth c R H locs cells slots Q lsA ad hx hb hown hts hl k => lv_dconst0 hx hb hd k) K
theorem xv_ldc {index : Nat} {v : Int32} (hd : decode u.2.1 pc = .ok (.ldc index, 2)) (hw : Cond.constant u.1 index v ∈ xw) (K : Ev l G u d Qr Qx kc ks (pc + 2) ls (.int v :: st) σ) : Ev l G u d Qr Qx kc ks pc ls (st) σ := xv_pure (fun p e s m args below meth c R H locs cells slots Q lsA ad hx hb hown hts hl k => lv_ldc hx hb hown (hts _ hw) hd k) K
theorem xv_ldcw {index : Nat} {v : Int32} (hd : decode u.2.1 pc = .ok (.ldc_w index, 3)) (hw : Cond.constant u.1 index v ∈ xw) (K : Ev l G u d Qr Qx kc ks (pc + 3) ls (.int v :: st) σ) : Ev l G u d Qr Qx kc ks pc ls (st) σ := xv_pure (fun p e s m args below meth c R H locs cells slots Q lsA ad hx hb hown hts hl k => lv_ldcw hx hb hown (hts _ hw) hd k) K
theorem xv_ldc2 {index : Nat} {v : Int64} (hd : decode u.2.1 pc = .ok (.ldc2_w index, 3)) (hw : Cond.constantLong u.1 index v ∈ xw) (K : Ev l G u d Qr Qx kc ks (pc + 3) ls (.long v :: st) σ) : Ev l G u d Qr Qx kc ks pc ls (st) σ := xv_pure (fun p e s m args below meth c R H locs cells slots Q lsA ad hx hb hown hts hl k => lv_ldc2 hx hb hown (hts _ hw) hd k) K
theorem xv_ldc2d {index : Nat} {v : UInt64} (hd : decode u.2.1 pc = .ok (.ldc2_w index, 3)) (hw : Cond.constantDouble u.1 index v ∈ xw) (K : Ev l G u d Qr Qx kc ks (pc + 3) ls (.double v :: st) σ) : Ev l G u d Qr Qx kc ks pc ls (st) σ := xv_pure (fun p e s m args below meth c R H locs cells slots Q lsA ad hx hb hown hts hl k => lv_ldc2d hx hb hown (hts _ hw) hd k) K
theorem xv_iload_n {j : Fin 4} {x : Int32} (hd : decode u.2.1 pc = .ok (.iload_n j, 1)) (h : ls[(j : Nat)]? = some (some (.int x))) (K : Ev l G u d Qr Qx kc ks (pc + 1) ls (.int x :: st) σ) : Ev l G u d Qr Qx kc ks pc ls (st) σ := xv_pure (fun p e s m args below meth c R H locs cells slots Q lsA ad hx hb hown hts hl k => lv_iload_n hx hb hd rfl (hl.2.2 _ _ h) k) K
theorem xv_iload {j : Nat} {x : Int32} (hd : decode u.2.1 pc = .ok (.iload j, 2)) (h : ls[j]? = some (some (.int x))) (K : Ev l G u d Qr Qx kc ks (pc + 2) ls (.int x :: st) σ) : Ev l G u d Qr Qx kc ks pc ls (st) σ := xv_pure (fun p e s m args below meth c R H locs cells slots Q lsA ad hx hb hown hts hl k => lv_iload hx hb hd (hl.2.2 _ _ h) k) K
theorem xv_lload_n {j : Fin 4} {x : Int64} (hd : decode u.2.1 pc = .ok (.lload_n j, 1)) (h : ls[(j : Nat)]? = some (some (.long x))) (K : Ev l G u d Qr Qx kc ks (pc + 1) ls (.long x :: st) σ) : Ev l G u d Qr Qx kc ks pc ls (st) σ := xv_pure (fun p e s m args below meth c R H locs cells slots Q lsA ad hx hb hown hts hl k => lv_lload_n hx hb hd rfl (hl.2.2 _ _ h) k) K
theorem xv_lload {j : Nat} {x : Int64} (hd : decode u.2.1 pc = .ok (.lload j, 2)) (h : ls[j]? = some (some (.long x))) (K : Ev l G u d Qr Qx kc ks (pc + 2) ls (.long x :: st) σ) : Ev l G u d Qr Qx kc ks pc ls (st) σ := xv_pure (fun p e s m args below meth c R H locs cells slots Q lsA ad hx hb hown hts hl k => lv_lload hx hb hd (hl.2.2 _ _ h) k) K
theorem xv_aload_n {j : Fin 4} {x : Nat} (hd : decode u.2.1 pc = .ok (.aload_n j, 1)) (h : ls[(j : Nat)]? = some (some (.ref x))) (K : Ev l G u d Qr Qx kc ks (pc + 1) ls (.ref x :: st) σ) : Ev l G u d Qr Qx kc ks pc ls (st) σ := xv_pure (fun p e s m args below meth c R H locs cells slots Q lsA ad hx hb hown hts hl k => lv_aload_n hx hb hd rfl (hl.2.2 _ _ h) k) K
theorem xv_aload {j : Nat} {x : Nat} (hd : decode u.2.1 pc = .ok (.aload j, 2)) (h : ls[j]? = some (some (.ref x))) (K : Ev l G u d Qr Qx kc ks (pc + 2) ls (.ref x :: st) σ) : Ev l G u d Qr Qx kc ks pc ls (st) σ := xv_pure (fun p e s m args below meth c R H locs cells slots Q lsA ad hx hb hown hts hl k => lv_aload hx hb hd (hl.2.2 _ _ h) k) K
theorem xv_dload_n {j : Fin 4} {x : UInt64} (hd : decode u.2.1 pc = .ok (.dload_n j, 1)) (h : ls[(j : Nat)]? = some (some (.double x))) (K : Ev l G u d Qr Qx kc ks (pc + 1) ls (.double x :: st) σ) : Ev l G u d Qr Qx kc ks pc ls (st) σ := xv_pure (fun p e s m args below meth c R H locs cells slots Q lsA ad hx hb hown hts hl k => lv_dload_n hx hb hd rfl (hl.2.2 _ _ h) k) K
theorem xv_dload {j : Nat} {x : UInt64} (hd : decode u.2.1 pc = .ok (.dload j, 2)) (h : ls[j]? = some (some (.double x))) (K : Ev l G u d Qr Qx kc ks (pc + 2) ls (.double x :: st) σ) : Ev l G u d Qr Qx kc ks pc ls (st) σ := xv_pure (fun p e s m args below meth c R H locs cells slots Q lsA ad hx hb hown hts hl k => lv_dload hx hb hd (hl.2.2 _ _ h) k) K
theorem xv_iadd {x y : Int32} (hd : decode u.2.1 pc = .ok (.iadd, 1)) (K : Ev l G u d Qr Qx kc ks (pc + 1) ls (.int (x + y) :: st) σ) : Ev l G u d Qr Qx kc ks pc ls (.int y :: .int x :: st) σ := xv_pure (fun p e s m args below meth c R H locs cells slots Q lsA ad hx hb hown hts hl k => lv_iadd hx hb hd k) K
theorem xv_isub {x y : Int32} (hd : decode u.2.1 pc = .ok (.isub, 1)) (K : Ev l G u d Qr Qx kc ks (pc + 1) ls (.int (x - y) :: st) σ) : Ev l G u d Qr Qx kc ks pc ls (.int y :: .int x :: st) σ := xv_pure (fun p e s m args below meth c R H locs cells slots Q lsA ad hx hb hown hts hl k => lv_isub hx hb hd k) K
theorem xv_imul {x y : Int32} (hd : decode u.2.1 pc = .ok (.imul, 1)) (K : Ev l G u d Qr Qx kc ks (pc + 1) ls (.int (x * y) :: st) σ) : Ev l G u d Qr Qx kc ks pc ls (.int y :: .int x :: st) σ := xv_pure (fun p e s m args below meth c R H locs cells slots Q lsA ad hx hb hown hts hl k => lv_imul hx hb hd k) K
theorem xv_iand {x y : Int32} (hd : decode u.2.1 pc = .ok (.iand, 1)) (K : Ev l G u d Qr Qx kc ks (pc + 1) ls (.int (x &&& y) :: st) σ) : Ev l G u d Qr Qx kc ks pc ls (.int y :: .int x :: st) σ := xv_pure (fun p e s m args below meth c R H locs cells slots Q lsA ad hx hb hown hts hl k => lv_iand hx hb hd k) K
theorem xv_ior {x y : Int32} (hd : decode u.2.1 pc = .ok (.ior, 1)) (K : Ev l G u d Qr Qx kc ks (pc + 1) ls (.int (x ||| y) :: st) σ) : Ev l G u d Qr Qx kc ks pc ls (.int y :: .int x :: st) σ := xv_pure (fun p e s m args below meth c R H locs cells slots Q lsA ad hx hb hown hts hl k => lv_ior hx hb hd k) K
theorem xv_ixor {x y : Int32} (hd : decode u.2.1 pc = .ok (.ixor, 1)) (K : Ev l G u d Qr Qx kc ks (pc + 1) ls (.int (x ^^^ y) :: st) σ) : Ev l G u d Qr Qx kc ks pc ls (.int y :: .int x :: st) σ := xv_pure (fun p e s m args below meth c R H locs cells slots Q lsA ad hx hb hown hts hl k => lv_ixor hx hb hd k) K
theorem xv_ishl {x y : Int32} (hd : decode u.2.1 pc = .ok (.ishl, 1)) (K : Ev l G u d Qr Qx kc ks (pc + 1) ls (.int (x <<< (y &&& 31)) :: st) σ) : Ev l G u d Qr Qx kc ks pc ls (.int y :: .int x :: st) σ := xv_pure (fun p e s m args below meth c R H locs cells slots Q lsA ad hx hb hown hts hl k => lv_ishl hx hb hd k) K
theorem xv_ishr {x y : Int32} (hd : decode u.2.1 pc = .ok (.ishr, 1)) (K : Ev l G u d Qr Qx kc ks (pc + 1) ls (.int (x >>> (y &&& 31)) :: st) σ) : Ev l G u d Qr Qx kc ks pc ls (.int y :: .int x :: st) σ := xv_pure (fun p e s m args below meth c R H locs cells slots Q lsA ad hx hb hown hts hl k => lv_ishr hx hb hd k) K
theorem xv_ineg {x : Int32} (hd : decode u.2.1 pc = .ok (.ineg, 1)) (K : Ev l G u d Qr Qx kc ks (pc + 1) ls (.int (-x) :: st) σ) : Ev l G u d Qr Qx kc ks pc ls (.int x :: st) σ := xv_pure (fun p e s m args below meth c R H locs cells slots Q lsA ad hx hb hown hts hl k => lv_ineg hx hb hd k) K
theorem xv_ladd {x y : Int64} (hd : decode u.2.1 pc = .ok (.ladd, 1)) (K : Ev l G u d Qr Qx kc ks (pc + 1) ls (.long (x + y) :: st) σ) : Ev l G u d Qr Qx kc ks pc ls (.long y :: .long x :: st) σ := xv_pure (fun p e s m args below meth c R H locs cells slots Q lsA ad hx hb hown hts hl k => lv_ladd hx hb hd k) K
theorem xv_lsub {x y : Int64} (hd : decode u.2.1 pc = .ok (.lsub, 1)) (K : Ev l G u d Qr Qx kc ks (pc + 1) ls (.long (x - y) :: st) σ) : Ev l G u d Qr Qx kc ks pc ls (.long y :: .long x :: st) σ := xv_pure (fun p e s m args below meth c R H locs cells slots Q lsA ad hx hb hown hts hl k => lv_lsub hx hb hd k) K
theorem xv_lmul {x y : Int64} (hd : decode u.2.1 pc = .ok (.lmul, 1)) (K : Ev l G u d Qr Qx kc ks (pc + 1) ls (.long (x * y) :: st) σ) : Ev l G u d Qr Qx kc ks pc ls (.long y :: .long x :: st) σ := xv_pure (fun p e s m args below meth c R H locs cells slots Q lsA ad hx hb hown hts hl k => lv_lmul hx hb hd k) K
theorem xv_ldiv {x y : Int64} (hd : decode u.2.1 pc = .ok (.ldiv, 1)) (hne : ¬ y = 0) (K : Ev l G u d Qr Qx kc ks (pc + 1) ls (.long (x / y) :: st) σ) : Ev l G u d Qr Qx kc ks pc ls (.long y :: .long x :: st) σ := xv_pure (fun p e s m args below meth c R H locs cells slots Q lsA ad hx hb hown hts hl k => lv_ldiv hx hb hd hne k) K
theorem xv_lrem {x y : Int64} (hd : decode u.2.1 pc = .ok (.lrem, 1)) (hne : ¬ y = 0) (K : Ev l G u d Qr Qx kc ks (pc + 1) ls (.long (x - x / y * y) :: st) σ) : Ev l G u d Qr Qx kc ks pc ls (.long y :: .long x :: st) σ := xv_pure (fun p e s m args below meth c R H locs cells slots Q lsA ad hx hb hown hts hl k => lv_lrem hx hb hd hne k) K
theorem xv_lneg {x : Int64} (hd : decode u.2.1 pc = .ok (.lneg, 1)) (K : Ev l G u d Qr Qx kc ks (pc + 1) ls (.long (-x) :: st) σ) : Ev l G u d Qr Qx kc ks pc ls (.long x :: st) σ := xv_pure (fun p e s m args below meth c R H locs cells slots Q lsA ad hx hb hown hts hl k => lv_lneg hx hb hd k) K
theorem xv_i2l {x : Int32} (hd : decode u.2.1 pc = .ok (.i2l, 1)) (K : Ev l G u d Qr Qx kc ks (pc + 1) ls (.long x.toInt64 :: st) σ) : Ev l G u d Qr Qx kc ks pc ls (.int x :: st) σ := xv_pure (fun p e s m args below meth c R H locs cells slots Q lsA ad hx hb hown hts hl k => lv_i2l hx hb hd rfl k) K
theorem xv_l2i {x : Int64} (hd : decode u.2.1 pc = .ok (.l2i, 1)) (K : Ev l G u d Qr Qx kc ks (pc + 1) ls (.int x.toInt32 :: st) σ) : Ev l G u d Qr Qx kc ks pc ls (.long x :: st) σ := xv_pure (fun p e s m args below meth c R H locs cells slots Q lsA ad hx hb hown hts hl k => lv_l2i hx hb hd rfl k) K
theorem xv_lcmp {x y : Int64} (hd : decode u.2.1 pc = .ok (.lcmp, 1)) (K : Ev l G u d Qr Qx kc ks (pc + 1) ls (.int (lg_cmp x y) :: st) σ) : Ev l G u d Qr Qx kc ks pc ls (.long y :: .long x :: st) σ := xv_pure (fun p e s m args below meth c R H locs cells slots Q lsA ad hx hb hown hts hl k => W.lcmp hx hb hd k) K
theorem xv_l2d {x : Int64} (hd : decode u.2.1 pc = .ok (.l2d, 1)) (K : Ev l G u d Qr Qx kc ks (pc + 1) ls (.double (FP.l2d x) :: st) σ) : Ev l G u d Qr Qx kc ks pc ls (.long x :: st) σ := xv_pure (fun p e s m args below meth c R H locs cells slots Q lsA ad hx hb hown hts hl k => lv_l2d hx hb hd k) K
theorem xv_dcmp {x y : UInt64} {op : CmpOp} (hd : decode u.2.1 pc = .ok (.dcmp op, 1)) (K : Ev l G u d Qr Qx kc ks (pc + 1) ls (.int (Op.cmpValue (FP.dcmp x y) op) :: st) σ) : Ev l G u d Qr Qx kc ks pc ls (.double y :: .double x :: st) σ := xv_pure (fun p e s m args below meth c R H locs cells slots Q lsA ad hx hb hown hts hl k => lv_dcmp hx hb hd k) K
theorem xv_dmul {x y : UInt64} (hd : decode u.2.1 pc = .ok (.dmul, 1)) (hne : vf_n64 (FP.dmul x y)) (K : Ev l G u d Qr Qx kc ks (pc + 1) ls (.double (FP.dmul x y) :: st) σ) : Ev l G u d Qr Qx kc ks pc ls (.double y :: .double x :: st) σ := xv_pure (fun p e s m args below meth c R H locs cells slots Q lsA ad hx hb hown hts hl k => lv_dmul hx hb hd hne k) K
theorem xv_ddiv {x y : UInt64} (hd : decode u.2.1 pc = .ok (.ddiv, 1)) (hne : vf_n64 (FP.ddiv x y)) (K : Ev l G u d Qr Qx kc ks (pc + 1) ls (.double (FP.ddiv x y) :: st) σ) : Ev l G u d Qr Qx kc ks pc ls (.double y :: .double x :: st) σ := xv_pure (fun p e s m args below meth c R H locs cells slots Q lsA ad hx hb hown hts hl k => lv_ddiv hx hb hd hne k) K
theorem xv_dup {a : Value} (hd : decode u.2.1 pc = .ok (.dup, 1)) (h1 : a.category = 1) (K : Ev l G u d Qr Qx kc ks (pc + 1) ls (a :: a :: st) σ) : Ev l G u d Qr Qx kc ks pc ls (a :: st) σ := xv_pure (fun p e s m args below meth c R H locs cells slots Q lsA ad hx hb hown hts hl k => lv_dup hx hb hd (by rw [xcv_cat]; exact h1) k) K
theorem xv_pop {a : Value} (hd : decode u.2.1 pc = .ok (.pop, 1)) (h1 : a.category = 1) (K : Ev l G u d Qr Qx kc ks (pc + 1) ls (st) σ) : Ev l G u d Qr Qx kc ks pc ls (a :: st) σ := xv_pure (fun p e s m args below meth c R H locs cells slots Q lsA ad hx hb hown hts hl k => lv_pop hx hb hd (by rw [xcv_cat]; exact h1) k) K
theorem xv_dup2 {a b : Value} (hd : decode u.2.1 pc = .ok (.dup2, 1)) (h1 : a.category = 1) (h2 : b.category = 1) (K : Ev l G u d Qr Qx kc ks (pc + 1) ls (a :: b :: a :: b :: st) σ) : Ev l G u d Qr Qx kc ks pc ls (a :: b :: st) σ := xv_pure (fun p e s m args below meth c R H locs cells slots Q lsA ad hx hb hown hts hl k => lv_dup2_11 hx hb hd (by rw [xcv_cat]; exact h1) (by rw [xcv_cat]; exact h2) k) K
theorem xv_dup2l {a : Value} (hd : decode u.2.1 pc = .ok (.dup2, 1)) (h1 : a.category = 2) (K : Ev l G u d Qr Qx kc ks (pc + 1) ls (a :: a :: st) σ) : Ev l G u d Qr Qx kc ks pc ls (a :: st) σ := xv_pure (fun p e s m args below meth c R H locs cells slots Q lsA ad hx hb hown hts hl k => lv_dup2_2 hx hb hd (by rw [xcv_cat]; exact h1) k) K
theorem xv_pop2l {a : Value} (hd : decode u.2.1 pc = .ok (.pop2, 1)) (h1 : a.category = 2) (K : Ev l G u d Qr Qx kc ks (pc + 1) ls (st) σ) : Ev l G u d Qr Qx kc ks pc ls (a :: st) σ := xv_pure (fun p e s m args below meth c R H locs cells slots Q lsA ad hx hb hown hts hl k => lv_pop2_2 hx hb hd (by rw [xcv_cat]; exact h1) k) K
theorem xv_if_eq {x : Int32} {off : Int} {tgt : Nat} (hd : decode u.2.1 pc = .ok (.ifCond .eq off, 3)) (ht : (pc : Int) + off = (tgt : Int)) (K1 : x = 0 → Ev l G u d Qr Qx kc ks tgt ls st σ) (K2 : ¬ x = 0 → Ev l G u d Qr Qx kc ks (pc + 3) ls st σ) : Ev l G u d Qr Qx kc ks pc ls (.int x :: st) σ := xv_pure2 (q := x = 0) (fun p e s m args below meth c R H locs cells slots Q lsA ad hx hb k1 k2 => lv_if_eq hx hb hd ht k1 k2) K1 K2
theorem xv_if_ne {x : Int32} {off : Int} {tgt : Nat} (hd : decode u.2.1 pc = .ok (.ifCond .ne off, 3)) (ht : (pc : Int) + off = (tgt : Int)) (K1 : ¬ x = 0 → Ev l G u d Qr Qx kc ks tgt ls st σ) (K2 : x = 0 → Ev l G u d Qr Qx kc ks (pc + 3) ls st σ) : Ev l G u d Qr Qx kc ks pc ls (.int x :: st) σ := xv_pure2 (q := x = 0) (fun p e s m args below meth c R H locs cells slots Q lsA ad hx hb k1 k2 => lv_if_ne hx hb hd ht k2 k1) K2 K1
theorem xv_if_lt {x : Int32} {off : Int} {tgt : Nat} (hd : decode u.2.1 pc = .ok (.ifCond .lt off, 3)) (ht : (pc : Int) + off = (tgt : Int)) (K1 : x < 0 → Ev l G u d Qr Qx kc ks tgt ls st σ) (K2 : ¬ x < 0 → Ev l G u d Qr Qx kc ks (pc + 3) ls st σ) : Ev l G u d Qr Qx kc ks pc ls (.int x :: st) σ := xv_pure2 (q := x < 0) (fun p e s m args below meth c R H locs cells slots Q lsA ad hx hb k1 k2 => lv_if_lt hx hb hd ht k1 k2) K1 K2
theorem xv_if_ge {x : Int32} {off : Int} {tgt : Nat} (hd : decode u.2.1 pc = .ok (.ifCond .ge off, 3)) (ht : (pc : Int) + off = (tgt : Int)) (K1 : 0 ≤ x → Ev l G u d Qr Qx kc ks tgt ls st σ) (K2 : ¬ 0 ≤ x → Ev l G u d Qr Qx kc ks (pc + 3) ls st σ) : Ev l G u d Qr Qx kc ks pc ls (.int x :: st) σ := xv_pure2 (q := 0 ≤ x) (fun p e s m args below meth c R H locs cells slots Q lsA ad hx hb k1 k2 => lv_if_ge hx hb hd ht k1 k2) K1 K2
theorem xv_if_gt {x : Int32} {off : Int} {tgt : Nat} (hd : decode u.2.1 pc = .ok (.ifCond .gt off, 3)) (ht : (pc : Int) + off = (tgt : Int)) (K1 : 0 < x → Ev l G u d Qr Qx kc ks tgt ls st σ) (K2 : ¬ 0 < x → Ev l G u d Qr Qx kc ks (pc + 3) ls st σ) : Ev l G u d Qr Qx kc ks pc ls (.int x :: st) σ := xv_pure2 (q := 0 < x) (fun p e s m args below meth c R H locs cells slots Q lsA ad hx hb k1 k2 => lv_if_gt hx hb hd ht k1 k2) K1 K2
theorem xv_if_le {x : Int32} {off : Int} {tgt : Nat} (hd : decode u.2.1 pc = .ok (.ifCond .le off, 3)) (ht : (pc : Int) + off = (tgt : Int)) (K1 : x ≤ 0 → Ev l G u d Qr Qx kc ks tgt ls st σ) (K2 : ¬ x ≤ 0 → Ev l G u d Qr Qx kc ks (pc + 3) ls st σ) : Ev l G u d Qr Qx kc ks pc ls (.int x :: st) σ := xv_pure2 (q := x ≤ 0) (fun p e s m args below meth c R H locs cells slots Q lsA ad hx hb k1 k2 => lv_if_le hx hb hd ht k1 k2) K1 K2
theorem xv_icmp_eq {x y : Int32} {off : Int} {tgt : Nat} (hd : decode u.2.1 pc = .ok (.if_icmp .eq off, 3)) (ht : (pc : Int) + off = (tgt : Int)) (K1 : x = y → Ev l G u d Qr Qx kc ks tgt ls st σ) (K2 : ¬ x = y → Ev l G u d Qr Qx kc ks (pc + 3) ls st σ) : Ev l G u d Qr Qx kc ks pc ls (.int y :: .int x :: st) σ := xv_pure2 (q := x = y) (fun p e s m args below meth c R H locs cells slots Q lsA ad hx hb k1 k2 => lv_icmp_eq hx hb hd ht k1 k2) K1 K2
theorem xv_lif_eq {x y : Int64} {off : Int} {tgt : Nat} (hd0 : decode u.2.1 pc = .ok (.lcmp, 1)) (hd : decode u.2.1 (pc + 1) = .ok (.ifCond .eq off, 3)) (ht : ((pc + 1 : Nat) : Int) + off = (tgt : Int)) (K1 : x = y → Ev l G u d Qr Qx kc ks tgt ls st σ) (K2 : ¬ x = y → Ev l G u d Qr Qx kc ks (pc + 1 + 3) ls st σ) : Ev l G u d Qr Qx kc ks pc ls (.long y :: .long x :: st) σ := xv_lcmp hd0 (xv_if_eq hd ht (fun h => K1 ((lg_cmp_eq x y).mp h)) (fun h => K2 (fun z => h ((lg_cmp_eq x y).mpr z))))
theorem xv_icmp_ne {x y : Int32} {off : Int} {tgt : Nat} (hd : decode u.2.1 pc = .ok (.if_icmp .ne off, 3)) (ht : (pc : Int) + off = (tgt : Int)) (K1 : ¬ x = y → Ev l G u d Qr Qx kc ks tgt ls st σ) (K2 : x = y → Ev l G u d Qr Qx kc ks (pc + 3) ls st σ) : Ev l G u d Qr Qx kc ks pc ls (.int y :: .int x :: st) σ := xv_pure2 (q := x = y) (fun p e s m args below meth c R H locs cells slots Q lsA ad hx hb k1 k2 => lv_icmp_ne hx hb hd ht k2 k1) K2 K1
theorem xv_lif_ne {x y : Int64} {off : Int} {tgt : Nat} (hd0 : decode u.2.1 pc = .ok (.lcmp, 1)) (hd : decode u.2.1 (pc + 1) = .ok (.ifCond .ne off, 3)) (ht : ((pc + 1 : Nat) : Int) + off = (tgt : Int)) (K1 : ¬ x = y → Ev l G u d Qr Qx kc ks tgt ls st σ) (K2 : x = y → Ev l G u d Qr Qx kc ks (pc + 1 + 3) ls st σ) : Ev l G u d Qr Qx kc ks pc ls (.long y :: .long x :: st) σ := xv_lcmp hd0 (xv_if_ne hd ht (fun h => K1 (fun z => h ((lg_cmp_eq x y).mpr z))) (fun h => K2 ((lg_cmp_eq x y).mp h)))
theorem xv_icmp_lt {x y : Int32} {off : Int} {tgt : Nat} (hd : decode u.2.1 pc = .ok (.if_icmp .lt off, 3)) (ht : (pc : Int) + off = (tgt : Int)) (K1 : x < y → Ev l G u d Qr Qx kc ks tgt ls st σ) (K2 : ¬ x < y → Ev l G u d Qr Qx kc ks (pc + 3) ls st σ) : Ev l G u d Qr Qx kc ks pc ls (.int y :: .int x :: st) σ := xv_pure2 (q := x < y) (fun p e s m args below meth c R H locs cells slots Q lsA ad hx hb k1 k2 => lv_icmp_lt hx hb hd ht k1 k2) K1 K2
theorem xv_lif_lt {x y : Int64} {off : Int} {tgt : Nat} (hd0 : decode u.2.1 pc = .ok (.lcmp, 1)) (hd : decode u.2.1 (pc + 1) = .ok (.ifCond .lt off, 3)) (ht : ((pc + 1 : Nat) : Int) + off = (tgt : Int)) (K1 : x < y → Ev l G u d Qr Qx kc ks tgt ls st σ) (K2 : ¬ x < y → Ev l G u d Qr Qx kc ks (pc + 1 + 3) ls st σ) : Ev l G u d Qr Qx kc ks pc ls (.long y :: .long x :: st) σ := xv_lcmp hd0 (xv_if_lt hd ht (fun h => K1 ((lg_cmp_lt x y).mp h)) (fun h => K2 (fun z => h ((lg_cmp_lt x y).mpr z))))
theorem xv_icmp_ge {x y : Int32} {off : Int} {tgt : Nat} (hd : decode u.2.1 pc = .ok (.if_icmp .ge off, 3)) (ht : (pc : Int) + off = (tgt : Int)) (K1 : y ≤ x → Ev l G u d Qr Qx kc ks tgt ls st σ) (K2 : ¬ y ≤ x → Ev l G u d Qr Qx kc ks (pc + 3) ls st σ) : Ev l G u d Qr Qx kc ks pc ls (.int y :: .int x :: st) σ := xv_pure2 (q := y ≤ x) (fun p e s m args below meth c R H locs cells slots Q lsA ad hx hb k1 k2 => lv_icmp_ge hx hb hd ht k1 k2) K1 K2
theorem xv_lif_ge {x y : Int64} {off : Int} {tgt : Nat} (hd0 : decode u.2.1 pc = .ok (.lcmp, 1)) (hd : decode u.2.1 (pc + 1) = .ok (.ifCond .ge off, 3)) (ht : ((pc + 1 : Nat) : Int) + off = (tgt : Int)) (K1 : y ≤ x → Ev l G u d Qr Qx kc ks tgt ls st σ) (K2 : ¬ y ≤ x → Ev l G u d Qr Qx kc ks (pc + 1 + 3) ls st σ) : Ev l G u d Qr Qx kc ks pc ls (.long y :: .long x :: st) σ := xv_lcmp hd0 (xv_if_ge hd ht (fun h => K1 ((lg_cmp_ge x y).mp h)) (fun h => K2 (fun z => h ((lg_cmp_ge x y).mpr z))))
theorem xv_icmp_gt {x y : Int32} {off : Int} {tgt : Nat} (hd : decode u.2.1 pc = .ok (.if_icmp .gt off, 3)) (ht : (pc : Int) + off = (tgt : Int)) (K1 : y < x → Ev l G u d Qr Qx kc ks tgt ls st σ) (K2 : ¬ y < x → Ev l G u d Qr Qx kc ks (pc + 3) ls st σ) : Ev l G u d Qr Qx kc ks pc ls (.int y :: .int x :: st) σ := xv_pure2 (q := y < x) (fun p e s m args below meth c R H locs cells slots Q lsA ad hx hb k1 k2 => lv_icmp_gt hx hb hd ht k1 k2) K1 K2
theorem xv_lif_gt {x y : Int64} {off : Int} {tgt : Nat} (hd0 : decode u.2.1 pc = .ok (.lcmp, 1)) (hd : decode u.2.1 (pc + 1) = .ok (.ifCond .gt off, 3)) (ht : ((pc + 1 : Nat) : Int) + off = (tgt : Int)) (K1 : y < x → Ev l G u d Qr Qx kc ks tgt ls st σ) (K2 : ¬ y < x → Ev l G u d Qr Qx kc ks (pc + 1 + 3) ls st σ) : Ev l G u d Qr Qx kc ks pc ls (.long y :: .long x :: st) σ := xv_lcmp hd0 (xv_if_gt hd ht (fun h => K1 ((lg_cmp_gt x y).mp h)) (fun h => K2 (fun z => h ((lg_cmp_gt x y).mpr z))))
theorem xv_icmp_le {x y : Int32} {off : Int} {tgt : Nat} (hd : decode u.2.1 pc = .ok (.if_icmp .le off, 3)) (ht : (pc : Int) + off = (tgt : Int)) (K1 : x ≤ y → Ev l G u d Qr Qx kc ks tgt ls st σ) (K2 : ¬ x ≤ y → Ev l G u d Qr Qx kc ks (pc + 3) ls st σ) : Ev l G u d Qr Qx kc ks pc ls (.int y :: .int x :: st) σ := xv_pure2 (q := x ≤ y) (fun p e s m args below meth c R H locs cells slots Q lsA ad hx hb k1 k2 => lv_icmp_le hx hb hd ht k1 k2) K1 K2
theorem xv_lif_le {x y : Int64} {off : Int} {tgt : Nat} (hd0 : decode u.2.1 pc = .ok (.lcmp, 1)) (hd : decode u.2.1 (pc + 1) = .ok (.ifCond .le off, 3)) (ht : ((pc + 1 : Nat) : Int) + off = (tgt : Int)) (K1 : x ≤ y → Ev l G u d Qr Qx kc ks tgt ls st σ) (K2 : ¬ x ≤ y → Ev l G u d Qr Qx kc ks (pc + 1 + 3) ls st σ) : Ev l G u d Qr Qx kc ks pc ls (.long y :: .long x :: st) σ := xv_lcmp hd0 (xv_if_le hd ht (fun h => K1 ((lg_cmp_le x y).mp h)) (fun h => K2 (fun z => h ((lg_cmp_le x y).mpr z))))
theorem xv_goto {off : Int} {tgt : Nat} (hd : decode u.2.1 pc = .ok (.goto off, 3)) (ht : (pc : Int) + off = (tgt : Int)) (K : Ev l G u d Qr Qx kc ks tgt ls st σ) : Ev l G u d Qr Qx kc ks pc ls st σ := xv_pure (fun p e s m args below meth c R H locs cells slots Q lsA ad hx hb hown hts hl k => lv_goto hx hb hd ht k) K
theorem xv_tabIn {dflt lo hi : Int} {offs : Array Int} {len : Nat} {x : Int32} {off : Int} {tgt : Nat} (hd : decode u.2.1 pc = .ok (.tableswitch dflt lo hi offs, len)) (h1 : ¬ x.toInt < lo) (h2 : ¬ hi < x.toInt) (ho : offs[(x.toInt - lo).toNat]? = some off) (ht : (pc : Int) + off = (tgt : Int)) (K : Ev l G u d Qr Qx kc ks tgt ls st σ) : Ev l G u d Qr Qx kc ks pc ls (.int x :: st) σ := xv_pure (fun p e s m args below meth c R H locs cells slots Q lsA ad hx hb hown hts hl k => lv_tableIn hx hb hd h1 h2 ho ht k) K
theorem xv_tabOut {dflt lo hi : Int} {offs : Array Int} {len : Nat} {x : Int32} {tgt : Nat} (hd : decode u.2.1 pc = .ok (.tableswitch dflt lo hi offs, len)) (h : x.toInt < lo ∨ hi < x.toInt) (ht : (pc : Int) + dflt = (tgt : Int)) (K : Ev l G u d Qr Qx kc ks tgt ls st σ) : Ev l G u d Qr Qx kc ks pc ls (.int x :: st) σ := xv_pure (fun p e s m args below meth c R H locs cells slots Q lsA ad hx hb hown hts hl k => lv_tableOut hx hb hd h ht k) K
/-- fewer locals known -/
theorem xv_sub {ls' : List (Option Value)} (h : ∀ (i : Nat) (v : Value), ls'[i]? = some (some v) → ls[i]? = some (some v)) (K : Ev l G u d Qr Qx kc ks pc ls' st σ) : Ev l G u d Qr Qx kc ks pc ls st σ := by
  intro p e s m args below meth c C n0 ad0 ad H locs cells slots mc ms lsA h1 h2 h3 h4 h5 h6 h7 h8
  exact K p e s m args below meth c C n0 ad0 ad H locs cells slots mc ms lsA h1 h2 h3 ⟨h4.1, h4.2.1, fun i v q => h4.2.2 i v (h i v q)⟩ h5 h6 h7 h8
theorem xv_room {kc' ks' : Nat} (h1' : kc' ≤ kc) (h2' : ks' ≤ ks) (K : Ev l G u d Qr Qx kc' ks' pc ls st σ) : Ev l G u d Qr Qx kc ks pc ls st σ := by
  intro p e s m args below meth c C n0 ad0 ad H locs cells slots mc ms lsA h1 h2 h3 h4 h5 h6 h7 h8
  exact K p e s m args below meth c C n0 ad0 ad H locs cells slots mc ms lsA h1 h2 h3 h4 h5 h6 (by omega) (by omega)
def xas (ad : Nat → Nat) (ls : List (Option Value)) : List (Nat × Value) := (List.range ls.length).filterMap (fun i => (ls[i]?.join).map (fun v => (i, xcv ad v)))
theorem xas_mem {ad : Nat → Nat} {ls : List (Option Value)} {i : Nat} {v : Value} (h : ls[i]? = some (some v)) : (i, xcv ad v) ∈ xas ad ls := by
  unfold xas
  refine List.mem_filterMap.mpr ⟨i, List.mem_range.mpr (List.getElem?_eq_some_iff.mp h).1, ?_⟩
  rw [h]; rfl
theorem xLs.has {lsA : Array Slot} {nL : Nat} {ad : Nat → Nat} {ls : List (Option Value)} (h : xLs lsA nL ad ls) : lv_has lsA nL (xas ad ls) := by
  refine ⟨h.1, h.2.1, fun q hq => ?_⟩
  obtain ⟨i, -, hi⟩ := List.mem_filterMap.mp hq
  cases hl : ls[i]? with
  | none => rw [hl] at hi; cases hi
  | some o =>
    rw [hl] at hi
    cases o with
    | none => cases hi
    | some v => cases hi; exact h.2.2 i v hl
def xclr (o : Option Value) : Option Value := match o with
  | some (.long _) => none
  | some (.double _) => none
  | o => o
def xs1 : Nat → Value → List (Option Value) → List (Option Value)
  | _, _, [] => []
  | 0, v, _ :: r => some v :: r
  | 1, v, a :: r => xclr a :: xs1 0 v r
  | n + 2, v, a :: r => a :: xs1 (n + 1) v r
def xs2 : Nat → Value → List (Option Value) → List (Option Value)
  | _, _, [] => []
  | 0, v, [_] => [some v]
  | 0, v, _ :: _ :: r => some v :: none :: r
  | 1, v, a :: r => xclr a :: xs2 0 v r
  | n + 2, v, a :: r => a :: xs2 (n + 1) v r
theorem xclr_spec {o : Option Value} {w : Value} (h : xclr o = some w) : o = some w ∧ ¬ w.category = 2 := by
  unfold xclr at h
  split at h
  · cases h
  · cases h
  · refine ⟨h, fun q => ?_⟩
    subst h
    cases w <;> simp_all [Value.category]
theorem xs1_get : ∀ (i : Nat) (v : Value) (ls : List (Option Value)) (j : Nat) (w : Value), (xs1 i v ls)[j]? = some (some w) → (j = i ∧ w = v) ∨ (j ≠ i ∧ ls[j]? = some (some w) ∧ ¬ (j + 1 = i ∧ w.category = 2))
  | i, v, [], j, w, h => by simp [xs1] at h
  | 0, v, a :: r, j, w, h => by
    cases j with
    | zero => simp [xs1] at h; exact Or.inl ⟨rfl, h.symm⟩
    | succ j => simp [xs1] at h; exact Or.inr ⟨by omega, by simpa using h, by omega⟩
  | 1, v, a :: r, j, w, h => by
    cases j with
    | zero => simp [xs1] at h; exact Or.inr ⟨by omega, by simp [(xclr_spec h).1], fun q => (xclr_spec h).2 q.2⟩
    | succ j =>
      simp only [xs1, List.getElem?_cons_succ] at h
      rcases xs1_get 0 v r j w h with ⟨q1, q2⟩ | ⟨q1, q2, q3⟩
      · exact Or.inl ⟨by omega, q2⟩
      · exact Or.inr ⟨by omega, by simpa using q2, fun z => q1 (by omega)⟩
  | n + 2, v, a :: r, j, w, h => by
    cases j with
    | zero => simp [xs1] at h; exact Or.inr ⟨by omega, by simp [h], by omega⟩
    | succ j =>
      simp only [xs1, List.getElem?_cons_succ] at h
      rcases xs1_get (n + 1) v r j w h with ⟨q1, q2⟩ | ⟨q1, q2, q3⟩
      · exact Or.inl ⟨by omega, q2⟩
      · exact Or.inr ⟨by omega, by simpa using q2, fun z => q3 ⟨by omega, z.2⟩⟩
theorem xs2_get : ∀ (i : Nat) (v : Value) (ls : List (Option Value)) (j : Nat) (w : Value), (xs2 i v ls)[j]? = some (some w) → (j = i ∧ w = v) ∨ (j ≠ i ∧ j ≠ i + 1 ∧ ls[j]? = some (some w) ∧ ¬ (j + 1 = i ∧ w.category = 2))
  | i, v, [], j, w, h => by simp [xs2] at h
  | 0, v, [a], j, w, h => by
    cases j with
    | zero => simp [xs2] at h; exact Or.inl ⟨rfl, h.symm⟩
    | succ j => simp [xs2] at h
  | 0, v, a :: b :: r, j, w, h => by
    match j with
    | 0 => simp [xs2] at h; exact Or.inl ⟨rfl, h.symm⟩
    | 1 => simp [xs2] at h
    | j + 2 => simp [xs2] at h; exact Or.inr ⟨by omega, by omega, by simpa using h, by omega⟩
  | 1, v, a :: r, j, w, h => by
    cases j with
    | zero => simp [xs2] at h; exact Or.inr ⟨by omega, by omega, by simp [(xclr_spec h).1], fun q => (xclr_spec h).2 q.2⟩
    | succ j =>
      simp only [xs2, List.getElem?_cons_succ] at h
      rcases xs2_get 0 v r j w h with ⟨q1, q2⟩ | ⟨q1, q0, q2, q3⟩
      · exact Or.inl ⟨by omega, q2⟩
      · exact Or.inr ⟨by omega, by omega, by simpa using q2, fun z => q1 (by omega)⟩
  | n + 2, v, a :: r, j, w, h => by
    cases j with
    | zero => simp [xs2] at h; exact Or.inr ⟨by omega, by omega, by simp [h], by omega⟩
    | succ j =>
      simp only [xs2, List.getElem?_cons_succ] at h
      rcases xs2_get (n + 1) v r j w h with ⟨q1, q2⟩ | ⟨q1, q0, q2, q3⟩
      · exact Or.inl ⟨by omega, q2⟩
      · exact Or.inr ⟨by omega, by omega, by simpa using q2, fun z => q3 ⟨by omega, z.2⟩⟩
theorem xLs.st1 {lsA lsB : Array Slot} {nL : Nat} {ad : Nat → Nat} {ls : List (Option Value)} {i : Nat} {v : Value} (h : lv_has lsB nL ((i, xcv ad v) :: (xas ad ls).filter (fun q => !(q.1 == i) && !(q.1 + 1 == i && q.2.category == 2)))) : xLs lsB nL ad (xs1 i v ls) := by
  refine ⟨h.1, h.2.1, fun j w hj => ?_⟩
  rcases xs1_get i v ls j w hj with ⟨rfl, rfl⟩ | ⟨q1, q2, q3⟩
  · exact h.2.2 (j, xcv ad w) List.mem_cons_self
  · refine h.2.2 (j, xcv ad w) (List.mem_cons_of_mem _ (List.mem_filter.mpr ⟨xas_mem q2, ?_⟩))
    simp only [xcv_cat, Bool.and_eq_true, Bool.not_eq_true', beq_eq_false_iff_ne, ne_eq, Bool.and_eq_false_iff]
    exact ⟨q1, by by_cases z : j + 1 = i
                  · exact Or.inr (fun y => q3 ⟨z, y⟩)
                  · exact Or.inl z⟩
theorem xLs.st2 {lsA lsB : Array Slot} {nL : Nat} {ad : Nat → Nat} {ls : List (Option Value)} {i : Nat} {v : Value} (h : lv_has lsB nL ((i, xcv ad v) :: (xas ad ls).filter (fun q => !(q.1 == i) && (!(q.1 == i + 1) && !(q.1 + 1 == i && q.2.category == 2))))) : xLs lsB nL ad (xs2 i v ls) := by
  refine ⟨h.1, h.2.1, fun j w hj => ?_⟩
  rcases xs2_get i v ls j w hj with ⟨rfl, rfl⟩ | ⟨q1, q0, q2, q3⟩
  · exact h.2.2 (j, xcv ad w) List.mem_cons_self
  · refine h.2.2 (j, xcv ad w) (List.mem_cons_of_mem _ (List.mem_filter.mpr ⟨xas_mem q2, ?_⟩))
    simp only [xcv_cat, Bool.and_eq_true, Bool.not_eq_true', beq_eq_false_iff_ne, ne_eq, Bool.and_eq_false_iff]
    exact ⟨q1, q0, by by_cases z : j + 1 = i
                      · exact Or.inr (fun y => q3 ⟨z, y⟩)
                      · exact Or.inl z⟩
theorem xv_store {pc' : Nat} {a : Value} {ls' : List (Option Value)}
    (row : ∀ (p : Program) (e : Env) (s : State) (m : MethodId) (args : Array Value) (below : List Frame) (meth : Method) (c : Code) (R : Room) (H : Heap) (locs : List Loc) (cells slots : Nat) (Q : State → Prop) (lsA : Array Slot) (ad : Nat → Nat),
      p.tables.exec = Jvm.exec → c.code = u.2.1 → xLs lsA u.2.2.1 ad ls →
      (∀ lsB : Array Slot, xLs lsB u.2.2.1 ad ls' → W p l e R s m args below meth c H locs cells slots Q (F0 m pc' lsB (st.map (xcv ad)))) → W p l e R s m args below meth c H locs cells slots Q (F0 m pc lsA (xcv ad a :: st.map (xcv ad))))
    (K : Ev l G u d Qr Qx kc ks pc' ls' st σ) : Ev l G u d Qr Qx kc ks pc ls (a :: st) σ := by
  intro p e s m args below meth c C n0 ad0 ad H locs cells slots mc ms lsA h1 h2 h3 h4 h5 h6 h7 h8
  have C' := C
  obtain ⟨hx, hb, -⟩ := C'
  exact row p e s m args below meth c _ H locs cells slots _ lsA ad hx hb h4 (fun lsB hB => K p e s m args below meth c C n0 ad0 ad H locs cells slots mc ms lsB h1 h2 h3 hB h5 h6 h7 h8)
theorem xv_istore_n {j : Fin 4} {x : Int32} {ls' : List (Option Value)} (hd : decode u.2.1 pc = .ok (.istore_n j, 1)) (hn : (j : Nat) < u.2.2.1) (h : xs1 (j : Nat) (.int x) ls = ls') (K : Ev l G u d Qr Qx kc ks (pc + 1) ls' st σ) : Ev l G u d Qr Qx kc ks pc ls (.int x :: st) σ := xv_store (fun p e s m args below meth c R H locs cells slots Q lsA ad hx hb hl k => lv_istore_n hx hb hd rfl hl.has hn rfl (fun lsB hB => k lsB (h ▸ xLs.st1 (lsA := lsA) hB))) K
theorem xv_istore {j : Nat} {x : Int32} {ls' : List (Option Value)} (hd : decode u.2.1 pc = .ok (.istore j, 2)) (hn : j < u.2.2.1) (h : xs1 j (.int x) ls = ls') (K : Ev l G u d Qr Qx kc ks (pc + 2) ls' st σ) : Ev l G u d Qr Qx kc ks pc ls (.int x :: st) σ := xv_store (fun p e s m args below meth c R H locs cells slots Q lsA ad hx hb hl k => lv_istore hx hb hd hl.has hn rfl (fun lsB hB => k lsB (h ▸ xLs.st1 (lsA := lsA) hB))) K
theorem xv_lstore_n {j : Fin 4} {x : Int64} {ls' : List (Option Value)} (hd : decode u.2.1 pc = .ok (.lstore_n j, 1)) (hn : (j : Nat) + 1 < u.2.2.1) (h : xs2 (j : Nat) (.long x) ls = ls') (K : Ev l G u d Qr Qx kc ks (pc + 1) ls' st σ) : Ev l G u d Qr Qx kc ks pc ls (.long x :: st) σ := xv_store (fun p e s m args below meth c R H locs cells slots Q lsA ad hx hb hl k => lv_lstore_n hx hb hd rfl hl.has hn rfl (fun lsB hB => k lsB (h ▸ xLs.st2 (lsA := lsA) hB))) K
theorem xv_lstore {j : Nat} {x : Int64} {ls' : List (Option Value)} (hd : decode u.2.1 pc = .ok (.lstore j, 2)) (hn : j + 1 < u.2.2.1) (h : xs2 j (.long x) ls = ls') (K : Ev l G u d Qr Qx kc ks (pc + 2) ls' st σ) : Ev l G u d Qr Qx kc ks pc ls (.long x :: st) σ := xv_store (fun p e s m args below meth c R H locs cells slots Q lsA ad hx hb hl k => lv_lstore hx hb hd hl.has hn rfl (fun lsB hB => k lsB (h ▸ xLs.st2 (lsA := lsA) hB))) K
theorem xv_astore_n {j : Fin 4} {x : Nat} {ls' : List (Option Value)} (hd : decode u.2.1 pc = .ok (.astore_n j, 1)) (hn : (j : Nat) < u.2.2.1) (h : xs1 (j : Nat) (.ref x) ls = ls') (K : Ev l G u d Qr Qx kc ks (pc + 1) ls' st σ) : Ev l G u d Qr Qx kc ks pc ls (.ref x :: st) σ := xv_store (fun p e s m args below meth c R H locs cells slots Q lsA ad hx hb hl k => lv_astore_n hx hb hd rfl hl.has hn rfl (fun lsB hB => k lsB (h ▸ xLs.st1 (lsA := lsA) hB))) K
theorem xv_astore {j : Nat} {x : Nat} {ls' : List (Option Value)} (hd : decode u.2.1 pc = .ok (.astore j, 2)) (hn : j < u.2.2.1) (h : xs1 j (.ref x) ls = ls') (K : Ev l G u d Qr Qx kc ks (pc + 2) ls' st σ) : Ev l G u d Qr Qx kc ks pc ls (.ref x :: st) σ := xv_store (fun p e s m args below meth c R H locs cells slots Q lsA ad hx hb hl k => lv_astore hx hb hd hl.has hn rfl (fun lsB hB => k lsB (h ▸ xLs.st1 (lsA := lsA) hB))) K
theorem xv_dstore_n {j : Fin 4} {x : UInt64} {ls' : List (Option Value)} (hd : decode u.2.1 pc = .ok (.dstore_n j, 1)) (hn : (j : Nat) + 1 < u.2.2.1) (h : xs2 (j : Nat) (.double x) ls = ls') (K : Ev l G u d Qr Qx kc ks (pc + 1) ls' st σ) : Ev l G u d Qr Qx kc ks pc ls (.double x :: st) σ := xv_store (fun p e s m args below meth c R H locs cells slots Q lsA ad hx hb hl k => lv_dstore_n hx hb hd rfl hl.has hn rfl (fun lsB hB => k lsB (h ▸ xLs.st2 (lsA := lsA) hB))) K
theorem xv_dstore {j : Nat} {x : UInt64} {ls' : List (Option Value)} (hd : decode u.2.1 pc = .ok (.dstore j, 2)) (hn : j + 1 < u.2.2.1) (h : xs2 j (.double x) ls = ls') (K : Ev l G u d Qr Qx kc ks (pc + 2) ls' st σ) : Ev l G u d Qr Qx kc ks pc ls (.double x :: st) σ := xv_store (fun p e s m args below meth c R H locs cells slots Q lsA ad hx hb hl k => lv_dstore hx hb hd hl.has hn rfl (fun lsB hB => k lsB (h ▸ xLs.st2 (lsA := lsA) hB))) K
theorem xv_iinc {j : Nat} {n : Int} {x v : Int32} {ls' : List (Option Value)} (hd : decode u.2.1 pc = .ok (.iinc j n, 3)) (hj : ls[j]? = some (some (.int x))) (hv : x + Int32.ofInt n = v) (hn : j < u.2.2.1) (h : xs1 j (.int v) ls = ls') (K : Ev l G u d Qr Qx kc ks (pc + 3) ls' st σ) : Ev l G u d Qr Qx kc ks pc ls st σ := by
  intro p e s m args below meth c C n0 ad0 ad H locs cells slots mc ms lsA h1 h2 h3 h4 h5 h6 h7 h8
  have C' := C
  obtain ⟨hx, hb, -⟩ := C'
  obtain ⟨k, hk⟩ := List.getElem?_of_mem (xas_mem (ad := ad) hj)
  exact lv_iinc hx hb hd h4.has hk hv hn rfl (fun lsB hB => K p e s m args below meth c C n0 ad0 ad H locs cells slots mc ms lsB h1 h2 h3 (h ▸ xLs.st1 (lsA := lsA) (v := .int v) hB) h5 h6 h7 h8)
end XRULES
