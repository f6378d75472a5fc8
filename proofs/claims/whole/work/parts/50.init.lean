theorem mk_arr {D : va_G} {cl : List vw_C} {args : Array Value} {s : State} {ty : FieldType} (hty : ty = .int ∨ ty = .long) (h : (Cond.arrayClass ty).before args s = true) : ∃ cA : ClassId, ArrOfT s cA ty ∧ va_RA s cA ty := by
  obtain ⟨cA, kA, comp, h1, h2, h3⟩ := Cond.arrayClass_spec h
  refine ⟨cA, fun n z => ⟨fun k h => (by cases h), kA, h2, comp, h3⟩, ?_⟩
  rcases hty with rfl | rfl <;> exact h1
theorem mk_uni {s : State} {a b : ClassId} (ha : va_RA s a .int) (hb : va_RA s b .int) : a = b := Option.some.inj ((show s.vm.findClass _ = some a from ha).symm.trans hb)
theorem mk_uniL {s : State} {a b : ClassId} (ha : va_RA s a .long) (hb : va_RA s b .long) : a = b := Option.some.inj ((show s.vm.findClass _ = some a from ha).symm.trans hb)
section MN
variable {p : Program} {l : Launch} {e : Env} {R : Room} {s : State} {m : MethodId} {args : Array Value} {below : List Frame} {meth : Method} {c : Code} {H : Heap} {locs : List Loc} {cells slots : Nat} {Q : State → Prop}
variable {cc : ByteArray} {pc : Nat} {ls : Array Slot} {rest : List Value} {D : va_G} {cl : List vw_C} {A : Nat → Prop} {ws : va_W} {H0 : Heap} {cI : ClassId}
theorem mv_newi (hexec : p.tables.exec = Jvm.exec) (hb : c.code = cc) (harr : (Cond.arrayClass .int).before args s = true) (hK : va_K D cl [(cI, .int)] s) (hP : va_P D cl ws H) (hD : va_D A ws) (hS : va_S A H0 H locs) (hA : ∀ q, H0.size ≤ q → A q) {N : Nat} (hN : N < 100000) (hcells : cells + 1 ≤ R.cells) (hslots : slots + N ≤ R.slots) (hdg : decode cc pc = .ok (.newarray .int, 2))
    (kk : ∀ (q : Nat) (H1 : Heap), va_P D cl (ws ++ [(q, .inl (cI, N, .inl (fun _ => 0)))]) H1 → va_D A (ws ++ [(q, .inl (cI, N, .inl (fun _ => 0)))]) → va_S A H0 H1 locs →
      W p l e R s m args below meth c H1 locs (cells + 1) (slots + N) Q (F0 m (pc + 2) ls (.ref q :: rest))) : W p l e R s m args below meth c H locs cells slots Q (F0 m pc ls (.int (nI N) :: rest)) := by
  refine va_newa (atype := .int) (ty := .int) (a0 := (N, .inl (fun _ => 0))) hexec hb harr rfl hK hP hD hS hA (fun cA => rfl) (nI_pos (by omega)) (nI_clamp (by omega)) (by show N * 4 ≤ _; omega) hcells hslots hdg (fun q cA H1 hK1 hP1 hD1 hS1 => ?_)
  have e1 : cA = cI := mk_uni (hK1.2 1 (cA, .int) rfl).2 (hK1.2 0 (cI, .int) rfl).2
  subst e1
  exact kk q H1 hP1 hD1 hS1
end MN
/-- a constructor -/
def mCv {S : Type} (l : Launch) (y : MethodName) (ws : List Cond) (rm : Room) (D : va_G) (cI : ClassId) (av : List Value) (wc : va_W) (post : S → Prop) (w1 : S → va_W) : Prop := ∀ sz : Nat, Met l y ws rm (va_Pc av (mPw D cI wc sz)) (va_Qv post (fun u => mBw D cI (va_A wc sz) (w1 u)) (va_A wc sz)) rm.cells rm.slots (va_A wc sz)
theorem m_ofC {S0 : Type} {l : Launch} {y : MethodName} {ws ws' : List Cond} {rm : Room} {D : va_G} {cI : ClassId} {av : List Value} {wc : va_W} {post : S0 → Prop} {w1 : S0 → va_W} {cc : ByteArray} {maxL : Nat} (hy : plainName y.cls = true) (hyn : y.name = "<init>") (hw : ws = Cond.code y cc maxL none :: ws') (hL : (lg_sl av).length ≤ maxL)
    (body : ∀ (p : Program) (e : Env) (s : State) (m : MethodId) (args : Array Value) (below : List Frame) (meth : Method) (c : Code) (ls : Array Slot) (A : Nat → Prop) (Q : State → Prop), p.tables.exec = Jvm.exec → c.code = cc → (∀ w ∈ ws, w.before args s = true) → s.vm.findClass y.cls = some m.cls → c.maxLocals = maxL → meth.name = "<init>" → va_P D vwCl wc s.heap → va_K D vwCl [(cI, .int)] s → va_D A wc → (∀ q : Nat, s.heap.size ≤ q → A q) → va_S A s.heap s.heap [] → lv_has ls maxL (lv_args 0 av) →
      (∀ {pc : Nat} {ls : Array Slot} {H : Heap} {locs : List Loc} (u : S0), post u → va_P D vwCl (w1 u) H → va_D A (w1 u) → va_S A s.heap H locs → decode cc pc = .ok (.return_, 1) → W p l e rm s m args below meth c H locs rm.cells rm.slots Q (F0 m pc ls [])) →
      W p l e rm s m args below meth c s.heap [] 0 0 Q (F0 m 0 ls [])) : mCv l y ws rm D cI av wc post w1 := by
  intro sz
  refine Met.ofW (cc := cc) (maxL := maxL) (ret := none) hy hw ?_
  intro p e s m args below meth c s₁ B hml hv
  obtain ⟨rfl, rfl, hP, hK, hD0⟩ := hv
  rw [lg_entry_eq]
  exact body p e s m _ below meth c _ _ _ B.exec B.bytes (atoms_spec (ws := ws) B.pre) (findClass_of_methodNamed B.named) hml ((name_of_methodNamed B.named B.method).1.trans hyn) hP hK hD0.self (fun q h => Or.inr h) va_S.rf (lv_entry av hL) (fun u hp hP hD hS hd => m_retv B.exec B.bytes B.returns B.notSynchronized u hp hP hK hD hS hd)
set_option maxHeartbeats 4000000 in
set_option maxRecDepth 100000 in
theorem c_X1_init (l : Launch) (dC : Nat → ClassId) (dI : Nat → Nat → Nat) (cI : ClassId) (r0 : Nat) : mCv l yX1_init wsX1_init ({ frames := 1, cells := 4, slots := 2051, locals := 32 }) (dC, dI) cI [.ref r0] [(r0, .inr (1, [.null, .null, .null, .null, .int 0, .int 0, .int 0, .int 0]))] (fun _ => True) (fun u : Nat × Nat × Nat × Nat => wR cI r0 u.1 u.2.1 u.2.2.1 u.2.2.2 (fun _ => 0) (fun _ => 0) (fun _ => 0) (fun _ => 0) 1 0 0 0) := by
  refine m_ofC (cc := cX1_init) (maxL := 1) (by decide) rfl rfl (Nat.le_of_ble_eq_true rfl) ?_
  intro p e s m args below meth c ls A Q hx hb hts hown hml hin hP hK hD hA hS hl hret
  have hown : s.vm.findClass RX1 = some m.cls := hown
  have hl : lv_has ls 1 [(0, .ref r0)] := hl
  have l9 := hts (.fieldLink RX1 9 "GroupDesk$Rows" "numbers" "[I") (by decide +kernel)
  have l15 := hts (.fieldLink RX1 15 "GroupDesk$Rows" "starts" "[I") (by decide +kernel)
  have l18 := hts (.fieldLink RX1 18 "GroupDesk$Rows" "lengths" "[I") (by decide +kernel)
  have l21 := hts (.fieldLink RX1 21 "GroupDesk$Rows" "tellers" "[I") (by decide +kernel)
  have l24 := hts (.fieldLink RX1 24 "GroupDesk$Rows" "made" "I") (by decide +kernel)
  have l28 := hts (.fieldLink RX1 28 "GroupDesk$Rows" "draftStart" "I") (by decide +kernel)
  have l31 := hts (.fieldLink RX1 31 "GroupDesk$Rows" "draftLength" "I") (by decide +kernel)
  have l34 := hts (.fieldLink RX1 34 "GroupDesk$Rows" "keptNumbers" "I") (by decide +kernel)
  have iX1 : ∀ w ∈ u_ws RX1 TX1 8, w ∈ wsX1_init := by decide +kernel
  have harr := hts (.arrayClass .int) (by decide +kernel)
  refine lv_aload_n hx hb dX1_init_0 rfl (lv_at hl 0 rfl) ?_
  refine W.objInit hx hb hown (hts (.methodLink RX1 3 objectInit) (by decide +kernel)) (hts (.instanceMethod objectInit) (by decide +kernel)) (hts (.code objectInit ⟨#[0xb1]⟩ 1 none) (by decide +kernel)) rfl (by rw [hml]; exact hl.1) rfl dX1_init_1 (Nat.le_of_ble_eq_true rfl) (Nat.le_of_ble_eq_true rfl) ?_
  refine W.eq (g2 := F0 m 4 ls []) rfl ?_
  refine lv_aload_n hx hb dX1_init_4 rfl (lv_at hl 0 rfl) ?_
  refine lv_sipush (v := nI 512) hx hb dX1_init_5 (by decide) ?_
  refine mv_newi hx hb harr hK hP hD hS hA (N := 512) (by decide) (Nat.le_of_ble_eq_true rfl) (Nat.le_of_ble_eq_true rfl) dX1_init_8 (fun q8 H hP hD hS => ?_)
  have hP : va_P (dC, dI) vwCl [(r0, .inr (1, [.null, .null, .null, .null, .int 0, .int 0, .int 0, .int 0])), (q8, .inl (cI, 512, .inl (fun _ => 0)))] H := hP
  have hD : va_D A [(r0, .inr (1, [.null, .null, .null, .null, .int 0, .int 0, .int 0, .int 0])), (q8, .inl (cI, 512, .inl (fun _ => 0)))] := hD
  refine W.widen (k := 1) (n := 512) (Nat.le_of_ble_eq_true rfl) (Nat.le_of_ble_eq_true rfl) ?_
  refine va_putF (D := (dC, dI)) (ci := 1) (v := .ref q8) (ty := .array .int) (C := RX1) (T := TX1) (N := 8) hx hb hts iX1 tyX1 tyX1_ok nmX1 hown hK hP hD hS 0 rfl rfl 0 (by decide) l9 (fun _ h9 => h9) rfl hin rfl (by decide +kernel) rfl rfl (Nat.le_of_ble_eq_true rfl) dX1_init_10 (fun H locs hP hD hS => ?_)
  have hP : va_P (dC, dI) vwCl [(r0, .inr (1, [.ref q8, .null, .null, .null, .int 0, .int 0, .int 0, .int 0])), (q8, .inl (cI, 512, .inl (fun _ => 0)))] H := hP
  have hD : va_D A [(r0, .inr (1, [.ref q8, .null, .null, .null, .int 0, .int 0, .int 0, .int 0])), (q8, .inl (cI, 512, .inl (fun _ => 0)))] := hD
  refine lv_aload_n hx hb dX1_init_13 rfl (lv_at hl 0 rfl) ?_
  refine lv_sipush (v := nI 513) hx hb dX1_init_14 (by decide) ?_
  refine mv_newi hx hb harr hK hP hD hS hA (N := 513) (by decide) (Nat.le_of_ble_eq_true rfl) (Nat.le_of_ble_eq_true rfl) dX1_init_17 (fun q17 H hP hD hS => ?_)
  have hP : va_P (dC, dI) vwCl [(r0, .inr (1, [.ref q8, .null, .null, .null, .int 0, .int 0, .int 0, .int 0])), (q8, .inl (cI, 512, .inl (fun _ => 0))), (q17, .inl (cI, 513, .inl (fun _ => 0)))] H := hP
  have hD : va_D A [(r0, .inr (1, [.ref q8, .null, .null, .null, .int 0, .int 0, .int 0, .int 0])), (q8, .inl (cI, 512, .inl (fun _ => 0))), (q17, .inl (cI, 513, .inl (fun _ => 0)))] := hD
  refine W.widen (k := 2) (n := 1025) (Nat.le_of_ble_eq_true rfl) (Nat.le_of_ble_eq_true rfl) ?_
  refine va_putF (D := (dC, dI)) (ci := 1) (v := .ref q17) (ty := .array .int) (C := RX1) (T := TX1) (N := 8) hx hb hts iX1 tyX1 tyX1_ok nmX1 hown hK hP hD hS 0 rfl rfl 1 (by decide) l15 (fun _ h9 => h9) rfl hin rfl (by decide +kernel) rfl rfl (Nat.le_of_ble_eq_true rfl) dX1_init_19 (fun H locs hP hD hS => ?_)
  have hP : va_P (dC, dI) vwCl [(r0, .inr (1, [.ref q8, .ref q17, .null, .null, .int 0, .int 0, .int 0, .int 0])), (q8, .inl (cI, 512, .inl (fun _ => 0))), (q17, .inl (cI, 513, .inl (fun _ => 0)))] H := hP
  have hD : va_D A [(r0, .inr (1, [.ref q8, .ref q17, .null, .null, .int 0, .int 0, .int 0, .int 0])), (q8, .inl (cI, 512, .inl (fun _ => 0))), (q17, .inl (cI, 513, .inl (fun _ => 0)))] := hD
  refine lv_aload_n hx hb dX1_init_22 rfl (lv_at hl 0 rfl) ?_
  refine lv_sipush (v := nI 513) hx hb dX1_init_23 (by decide) ?_
  refine mv_newi hx hb harr hK hP hD hS hA (N := 513) (by decide) (Nat.le_of_ble_eq_true rfl) (Nat.le_of_ble_eq_true rfl) dX1_init_26 (fun q26 H hP hD hS => ?_)
  have hP : va_P (dC, dI) vwCl [(r0, .inr (1, [.ref q8, .ref q17, .null, .null, .int 0, .int 0, .int 0, .int 0])), (q8, .inl (cI, 512, .inl (fun _ => 0))), (q17, .inl (cI, 513, .inl (fun _ => 0))), (q26, .inl (cI, 513, .inl (fun _ => 0)))] H := hP
  have hD : va_D A [(r0, .inr (1, [.ref q8, .ref q17, .null, .null, .int 0, .int 0, .int 0, .int 0])), (q8, .inl (cI, 512, .inl (fun _ => 0))), (q17, .inl (cI, 513, .inl (fun _ => 0))), (q26, .inl (cI, 513, .inl (fun _ => 0)))] := hD
  refine W.widen (k := 3) (n := 1538) (Nat.le_of_ble_eq_true rfl) (Nat.le_of_ble_eq_true rfl) ?_
  refine va_putF (D := (dC, dI)) (ci := 1) (v := .ref q26) (ty := .array .int) (C := RX1) (T := TX1) (N := 8) hx hb hts iX1 tyX1 tyX1_ok nmX1 hown hK hP hD hS 0 rfl rfl 2 (by decide) l18 (fun _ h9 => h9) rfl hin rfl (by decide +kernel) rfl rfl (Nat.le_of_ble_eq_true rfl) dX1_init_28 (fun H locs hP hD hS => ?_)
  have hP : va_P (dC, dI) vwCl [(r0, .inr (1, [.ref q8, .ref q17, .ref q26, .null, .int 0, .int 0, .int 0, .int 0])), (q8, .inl (cI, 512, .inl (fun _ => 0))), (q17, .inl (cI, 513, .inl (fun _ => 0))), (q26, .inl (cI, 513, .inl (fun _ => 0)))] H := hP
  have hD : va_D A [(r0, .inr (1, [.ref q8, .ref q17, .ref q26, .null, .int 0, .int 0, .int 0, .int 0])), (q8, .inl (cI, 512, .inl (fun _ => 0))), (q17, .inl (cI, 513, .inl (fun _ => 0))), (q26, .inl (cI, 513, .inl (fun _ => 0)))] := hD
  refine lv_aload_n hx hb dX1_init_31 rfl (lv_at hl 0 rfl) ?_
  refine lv_sipush (v := nI 513) hx hb dX1_init_32 (by decide) ?_
  refine mv_newi hx hb harr hK hP hD hS hA (N := 513) (by decide) (Nat.le_of_ble_eq_true rfl) (Nat.le_of_ble_eq_true rfl) dX1_init_35 (fun q35 H hP hD hS => ?_)
  have hP : va_P (dC, dI) vwCl [(r0, .inr (1, [.ref q8, .ref q17, .ref q26, .null, .int 0, .int 0, .int 0, .int 0])), (q8, .inl (cI, 512, .inl (fun _ => 0))), (q17, .inl (cI, 513, .inl (fun _ => 0))), (q26, .inl (cI, 513, .inl (fun _ => 0))), (q35, .inl (cI, 513, .inl (fun _ => 0)))] H := hP
  have hD : va_D A [(r0, .inr (1, [.ref q8, .ref q17, .ref q26, .null, .int 0, .int 0, .int 0, .int 0])), (q8, .inl (cI, 512, .inl (fun _ => 0))), (q17, .inl (cI, 513, .inl (fun _ => 0))), (q26, .inl (cI, 513, .inl (fun _ => 0))), (q35, .inl (cI, 513, .inl (fun _ => 0)))] := hD
  refine W.widen (k := 4) (n := 2051) (Nat.le_of_ble_eq_true rfl) (Nat.le_of_ble_eq_true rfl) ?_
  refine va_putF (D := (dC, dI)) (ci := 1) (v := .ref q35) (ty := .array .int) (C := RX1) (T := TX1) (N := 8) hx hb hts iX1 tyX1 tyX1_ok nmX1 hown hK hP hD hS 0 rfl rfl 3 (by decide) l21 (fun _ h9 => h9) rfl hin rfl (by decide +kernel) rfl rfl (Nat.le_of_ble_eq_true rfl) dX1_init_37 (fun H locs hP hD hS => ?_)
  have hP : va_P (dC, dI) vwCl [(r0, .inr (1, [.ref q8, .ref q17, .ref q26, .ref q35, .int 0, .int 0, .int 0, .int 0])), (q8, .inl (cI, 512, .inl (fun _ => 0))), (q17, .inl (cI, 513, .inl (fun _ => 0))), (q26, .inl (cI, 513, .inl (fun _ => 0))), (q35, .inl (cI, 513, .inl (fun _ => 0)))] H := hP
  have hD : va_D A [(r0, .inr (1, [.ref q8, .ref q17, .ref q26, .ref q35, .int 0, .int 0, .int 0, .int 0])), (q8, .inl (cI, 512, .inl (fun _ => 0))), (q17, .inl (cI, 513, .inl (fun _ => 0))), (q26, .inl (cI, 513, .inl (fun _ => 0))), (q35, .inl (cI, 513, .inl (fun _ => 0)))] := hD
  refine lv_aload_n hx hb dX1_init_40 rfl (lv_at hl 0 rfl) ?_
  refine lv_iconst (v := 1) hx hb dX1_init_41 (by decide) ?_
  refine va_put (D := (dC, dI)) (ci := 1) (v := .int 1) (ty := .int) (C := RX1) (T := TX1) (N := 8) hx hb hts iX1 tyX1 tyX1_ok nmX1 hown hK hP hD hS 0 rfl rfl 4 (by decide) l24 (fun _ h9 => h9) rfl (by decide +kernel) rfl rfl (Nat.le_of_ble_eq_true rfl) dX1_init_42 (fun H locs hP hD hS => ?_)
  have hP : va_P (dC, dI) vwCl [(r0, .inr (1, [.ref q8, .ref q17, .ref q26, .ref q35, .int 1, .int 0, .int 0, .int 0])), (q8, .inl (cI, 512, .inl (fun _ => 0))), (q17, .inl (cI, 513, .inl (fun _ => 0))), (q26, .inl (cI, 513, .inl (fun _ => 0))), (q35, .inl (cI, 513, .inl (fun _ => 0)))] H := hP
  have hD : va_D A [(r0, .inr (1, [.ref q8, .ref q17, .ref q26, .ref q35, .int 1, .int 0, .int 0, .int 0])), (q8, .inl (cI, 512, .inl (fun _ => 0))), (q17, .inl (cI, 513, .inl (fun _ => 0))), (q26, .inl (cI, 513, .inl (fun _ => 0))), (q35, .inl (cI, 513, .inl (fun _ => 0)))] := hD
  refine lv_aload_n hx hb dX1_init_45 rfl (lv_at hl 0 rfl) ?_
  refine lv_iconst (v := 0) hx hb dX1_init_46 (by decide) ?_
  refine va_put (D := (dC, dI)) (ci := 1) (v := .int 0) (ty := .int) (C := RX1) (T := TX1) (N := 8) hx hb hts iX1 tyX1 tyX1_ok nmX1 hown hK hP hD hS 0 rfl rfl 5 (by decide) l28 (fun _ h9 => h9) rfl (by decide +kernel) rfl rfl (Nat.le_of_ble_eq_true rfl) dX1_init_47 (fun H locs hP hD hS => ?_)
  have hP : va_P (dC, dI) vwCl [(r0, .inr (1, [.ref q8, .ref q17, .ref q26, .ref q35, .int 1, .int 0, .int 0, .int 0])), (q8, .inl (cI, 512, .inl (fun _ => 0))), (q17, .inl (cI, 513, .inl (fun _ => 0))), (q26, .inl (cI, 513, .inl (fun _ => 0))), (q35, .inl (cI, 513, .inl (fun _ => 0)))] H := hP
  have hD : va_D A [(r0, .inr (1, [.ref q8, .ref q17, .ref q26, .ref q35, .int 1, .int 0, .int 0, .int 0])), (q8, .inl (cI, 512, .inl (fun _ => 0))), (q17, .inl (cI, 513, .inl (fun _ => 0))), (q26, .inl (cI, 513, .inl (fun _ => 0))), (q35, .inl (cI, 513, .inl (fun _ => 0)))] := hD
  refine lv_aload_n hx hb dX1_init_50 rfl (lv_at hl 0 rfl) ?_
  refine lv_iconst (v := 0) hx hb dX1_init_51 (by decide) ?_
  refine va_put (D := (dC, dI)) (ci := 1) (v := .int 0) (ty := .int) (C := RX1) (T := TX1) (N := 8) hx hb hts iX1 tyX1 tyX1_ok nmX1 hown hK hP hD hS 0 rfl rfl 6 (by decide) l31 (fun _ h9 => h9) rfl (by decide +kernel) rfl rfl (Nat.le_of_ble_eq_true rfl) dX1_init_52 (fun H locs hP hD hS => ?_)
  have hP : va_P (dC, dI) vwCl [(r0, .inr (1, [.ref q8, .ref q17, .ref q26, .ref q35, .int 1, .int 0, .int 0, .int 0])), (q8, .inl (cI, 512, .inl (fun _ => 0))), (q17, .inl (cI, 513, .inl (fun _ => 0))), (q26, .inl (cI, 513, .inl (fun _ => 0))), (q35, .inl (cI, 513, .inl (fun _ => 0)))] H := hP
  have hD : va_D A [(r0, .inr (1, [.ref q8, .ref q17, .ref q26, .ref q35, .int 1, .int 0, .int 0, .int 0])), (q8, .inl (cI, 512, .inl (fun _ => 0))), (q17, .inl (cI, 513, .inl (fun _ => 0))), (q26, .inl (cI, 513, .inl (fun _ => 0))), (q35, .inl (cI, 513, .inl (fun _ => 0)))] := hD
  refine lv_aload_n hx hb dX1_init_55 rfl (lv_at hl 0 rfl) ?_
  refine lv_iconst (v := 0) hx hb dX1_init_56 (by decide) ?_
  refine va_put (D := (dC, dI)) (ci := 1) (v := .int 0) (ty := .int) (C := RX1) (T := TX1) (N := 8) hx hb hts iX1 tyX1 tyX1_ok nmX1 hown hK hP hD hS 0 rfl rfl 7 (by decide) l34 (fun _ h9 => h9) rfl (by decide +kernel) rfl rfl (Nat.le_of_ble_eq_true rfl) dX1_init_57 (fun H locs hP hD hS => ?_)
  have hP : va_P (dC, dI) vwCl [(r0, .inr (1, [.ref q8, .ref q17, .ref q26, .ref q35, .int 1, .int 0, .int 0, .int 0])), (q8, .inl (cI, 512, .inl (fun _ => 0))), (q17, .inl (cI, 513, .inl (fun _ => 0))), (q26, .inl (cI, 513, .inl (fun _ => 0))), (q35, .inl (cI, 513, .inl (fun _ => 0)))] H := hP
  have hD : va_D A [(r0, .inr (1, [.ref q8, .ref q17, .ref q26, .ref q35, .int 1, .int 0, .int 0, .int 0])), (q8, .inl (cI, 512, .inl (fun _ => 0))), (q17, .inl (cI, 513, .inl (fun _ => 0))), (q26, .inl (cI, 513, .inl (fun _ => 0))), (q35, .inl (cI, 513, .inl (fun _ => 0)))] := hD
  exact hret (q8, q17, q26, q35) trivial hP hD hS dX1_init_60
set_option maxHeartbeats 4000000 in
set_option maxRecDepth 100000 in
theorem c_X0_init (l : Launch) (dC : Nat → ClassId) (dI : Nat → Nat → Nat) (cI : ClassId) (p0 r0 : Nat) : mCv l yX0_init wsX0_init ({ frames := 1, cells := 6, slots := 8782, locals := 32 }) (dC, dI) cI [.ref p0, .ref r0] [(p0, .inr (0, [.null, .null, .null, .null, .null, .null, .null, .int 0, .int 0]))] (fun _ => True) (fun u : Nat × Nat × Nat × Nat × Nat × Nat => wP cI r0 p0 u.1 u.2.1 u.2.2.1 u.2.2.2.1 u.2.2.2.2.1 u.2.2.2.2.2 (fun _ => 0) (fun _ => 0) (fun _ => 0) (fun _ => 0) (fun _ => 0) (fun _ => 0) 0 0) := by
  refine m_ofC (cc := cX0_init) (maxL := 2) (by decide) rfl rfl (Nat.le_of_ble_eq_true rfl) ?_
  intro p e s m args below meth c ls A Q hx hb hts hown hml hin hP hK hD hA hS hl hret
  have hown : s.vm.findClass RX0 = some m.cls := hown
  have hl : lv_has ls 2 [(0, .ref p0), (1, .ref r0)] := hl
  have l9 := hts (.fieldLink RX0 9 "GroupDesk$Places" "kinds" "[I") (by decide +kernel)
  have l15 := hts (.fieldLink RX0 15 "GroupDesk$Places" "values" "[I") (by decide +kernel)
  have l18 := hts (.fieldLink RX0 18 "GroupDesk$Places" "savedPlaces" "[I") (by decide +kernel)
  have l21 := hts (.fieldLink RX0 21 "GroupDesk$Places" "savedGroups" "[I") (by decide +kernel)
  have l24 := hts (.fieldLink RX0 24 "GroupDesk$Places" "savedKinds" "[I") (by decide +kernel)
  have l27 := hts (.fieldLink RX0 27 "GroupDesk$Places" "savedValues" "[I") (by decide +kernel)
  have l30 := hts (.fieldLink RX0 30 "GroupDesk$Places" "savedCount" "I") (by decide +kernel)
  have l34 := hts (.fieldLink RX0 34 "GroupDesk$Places" "openGroups" "I") (by decide +kernel)
  have l37 := hts (.fieldLink RX0 37 "GroupDesk$Places" "rows" "LGroupDesk$Rows;") (by decide +kernel)
  have iX0 : ∀ w ∈ u_ws RX0 TX0 9, w ∈ wsX0_init := by decide +kernel
  have harr := hts (.arrayClass .int) (by decide +kernel)
  refine lv_aload_n hx hb dX0_init_0 rfl (lv_at hl 0 rfl) ?_
  refine W.objInit hx hb hown (hts (.methodLink RX0 3 objectInit) (by decide +kernel)) (hts (.instanceMethod objectInit) (by decide +kernel)) (hts (.code objectInit ⟨#[0xb1]⟩ 1 none) (by decide +kernel)) rfl (by rw [hml]; exact hl.1) rfl dX0_init_1 (Nat.le_of_ble_eq_true rfl) (Nat.le_of_ble_eq_true rfl) ?_
  refine W.eq (g2 := F0 m 4 ls []) rfl ?_
  refine lv_aload_n hx hb dX0_init_4 rfl (lv_at hl 0 rfl) ?_
  refine lv_sipush (v := nI 3367) hx hb dX0_init_5 (by decide) ?_
  refine mv_newi hx hb harr hK hP hD hS hA (N := 3367) (by decide) (Nat.le_of_ble_eq_true rfl) (Nat.le_of_ble_eq_true rfl) dX0_init_8 (fun q8 H hP hD hS => ?_)
  have hP : va_P (dC, dI) vwCl [(p0, .inr (0, [.null, .null, .null, .null, .null, .null, .null, .int 0, .int 0])), (q8, .inl (cI, 3367, .inl (fun _ => 0)))] H := hP
  have hD : va_D A [(p0, .inr (0, [.null, .null, .null, .null, .null, .null, .null, .int 0, .int 0])), (q8, .inl (cI, 3367, .inl (fun _ => 0)))] := hD
  refine W.widen (k := 1) (n := 3367) (Nat.le_of_ble_eq_true rfl) (Nat.le_of_ble_eq_true rfl) ?_
  refine va_putF (D := (dC, dI)) (ci := 0) (v := .ref q8) (ty := .array .int) (C := RX0) (T := TX0) (N := 9) hx hb hts iX0 tyX0 tyX0_ok nmX0 hown hK hP hD hS 0 rfl rfl 1 (by decide) l9 (fun _ h9 => h9) rfl hin rfl (by decide +kernel) rfl rfl (Nat.le_of_ble_eq_true rfl) dX0_init_10 (fun H locs hP hD hS => ?_)
  have hP : va_P (dC, dI) vwCl [(p0, .inr (0, [.null, .ref q8, .null, .null, .null, .null, .null, .int 0, .int 0])), (q8, .inl (cI, 3367, .inl (fun _ => 0)))] H := hP
  have hD : va_D A [(p0, .inr (0, [.null, .ref q8, .null, .null, .null, .null, .null, .int 0, .int 0])), (q8, .inl (cI, 3367, .inl (fun _ => 0)))] := hD
  refine lv_aload_n hx hb dX0_init_13 rfl (lv_at hl 0 rfl) ?_
  refine lv_sipush (v := nI 3367) hx hb dX0_init_14 (by decide) ?_
  refine mv_newi hx hb harr hK hP hD hS hA (N := 3367) (by decide) (Nat.le_of_ble_eq_true rfl) (Nat.le_of_ble_eq_true rfl) dX0_init_17 (fun q17 H hP hD hS => ?_)
  have hP : va_P (dC, dI) vwCl [(p0, .inr (0, [.null, .ref q8, .null, .null, .null, .null, .null, .int 0, .int 0])), (q8, .inl (cI, 3367, .inl (fun _ => 0))), (q17, .inl (cI, 3367, .inl (fun _ => 0)))] H := hP
  have hD : va_D A [(p0, .inr (0, [.null, .ref q8, .null, .null, .null, .null, .null, .int 0, .int 0])), (q8, .inl (cI, 3367, .inl (fun _ => 0))), (q17, .inl (cI, 3367, .inl (fun _ => 0)))] := hD
  refine W.widen (k := 2) (n := 6734) (Nat.le_of_ble_eq_true rfl) (Nat.le_of_ble_eq_true rfl) ?_
  refine va_putF (D := (dC, dI)) (ci := 0) (v := .ref q17) (ty := .array .int) (C := RX0) (T := TX0) (N := 9) hx hb hts iX0 tyX0 tyX0_ok nmX0 hown hK hP hD hS 0 rfl rfl 2 (by decide) l15 (fun _ h9 => h9) rfl hin rfl (by decide +kernel) rfl rfl (Nat.le_of_ble_eq_true rfl) dX0_init_19 (fun H locs hP hD hS => ?_)
  have hP : va_P (dC, dI) vwCl [(p0, .inr (0, [.null, .ref q8, .ref q17, .null, .null, .null, .null, .int 0, .int 0])), (q8, .inl (cI, 3367, .inl (fun _ => 0))), (q17, .inl (cI, 3367, .inl (fun _ => 0)))] H := hP
  have hD : va_D A [(p0, .inr (0, [.null, .ref q8, .ref q17, .null, .null, .null, .null, .int 0, .int 0])), (q8, .inl (cI, 3367, .inl (fun _ => 0))), (q17, .inl (cI, 3367, .inl (fun _ => 0)))] := hD
  refine lv_aload_n hx hb dX0_init_22 rfl (lv_at hl 0 rfl) ?_
  refine lv_sipush (v := nI 512) hx hb dX0_init_23 (by decide) ?_
  refine mv_newi hx hb harr hK hP hD hS hA (N := 512) (by decide) (Nat.le_of_ble_eq_true rfl) (Nat.le_of_ble_eq_true rfl) dX0_init_26 (fun q26 H hP hD hS => ?_)
  have hP : va_P (dC, dI) vwCl [(p0, .inr (0, [.null, .ref q8, .ref q17, .null, .null, .null, .null, .int 0, .int 0])), (q8, .inl (cI, 3367, .inl (fun _ => 0))), (q17, .inl (cI, 3367, .inl (fun _ => 0))), (q26, .inl (cI, 512, .inl (fun _ => 0)))] H := hP
  have hD : va_D A [(p0, .inr (0, [.null, .ref q8, .ref q17, .null, .null, .null, .null, .int 0, .int 0])), (q8, .inl (cI, 3367, .inl (fun _ => 0))), (q17, .inl (cI, 3367, .inl (fun _ => 0))), (q26, .inl (cI, 512, .inl (fun _ => 0)))] := hD
  refine W.widen (k := 3) (n := 7246) (Nat.le_of_ble_eq_true rfl) (Nat.le_of_ble_eq_true rfl) ?_
  refine va_putF (D := (dC, dI)) (ci := 0) (v := .ref q26) (ty := .array .int) (C := RX0) (T := TX0) (N := 9) hx hb hts iX0 tyX0 tyX0_ok nmX0 hown hK hP hD hS 0 rfl rfl 3 (by decide) l18 (fun _ h9 => h9) rfl hin rfl (by decide +kernel) rfl rfl (Nat.le_of_ble_eq_true rfl) dX0_init_28 (fun H locs hP hD hS => ?_)
  have hP : va_P (dC, dI) vwCl [(p0, .inr (0, [.null, .ref q8, .ref q17, .ref q26, .null, .null, .null, .int 0, .int 0])), (q8, .inl (cI, 3367, .inl (fun _ => 0))), (q17, .inl (cI, 3367, .inl (fun _ => 0))), (q26, .inl (cI, 512, .inl (fun _ => 0)))] H := hP
  have hD : va_D A [(p0, .inr (0, [.null, .ref q8, .ref q17, .ref q26, .null, .null, .null, .int 0, .int 0])), (q8, .inl (cI, 3367, .inl (fun _ => 0))), (q17, .inl (cI, 3367, .inl (fun _ => 0))), (q26, .inl (cI, 512, .inl (fun _ => 0)))] := hD
  refine lv_aload_n hx hb dX0_init_31 rfl (lv_at hl 0 rfl) ?_
  refine lv_sipush (v := nI 512) hx hb dX0_init_32 (by decide) ?_
  refine mv_newi hx hb harr hK hP hD hS hA (N := 512) (by decide) (Nat.le_of_ble_eq_true rfl) (Nat.le_of_ble_eq_true rfl) dX0_init_35 (fun q35 H hP hD hS => ?_)
  have hP : va_P (dC, dI) vwCl [(p0, .inr (0, [.null, .ref q8, .ref q17, .ref q26, .null, .null, .null, .int 0, .int 0])), (q8, .inl (cI, 3367, .inl (fun _ => 0))), (q17, .inl (cI, 3367, .inl (fun _ => 0))), (q26, .inl (cI, 512, .inl (fun _ => 0))), (q35, .inl (cI, 512, .inl (fun _ => 0)))] H := hP
  have hD : va_D A [(p0, .inr (0, [.null, .ref q8, .ref q17, .ref q26, .null, .null, .null, .int 0, .int 0])), (q8, .inl (cI, 3367, .inl (fun _ => 0))), (q17, .inl (cI, 3367, .inl (fun _ => 0))), (q26, .inl (cI, 512, .inl (fun _ => 0))), (q35, .inl (cI, 512, .inl (fun _ => 0)))] := hD
  refine W.widen (k := 4) (n := 7758) (Nat.le_of_ble_eq_true rfl) (Nat.le_of_ble_eq_true rfl) ?_
  refine va_putF (D := (dC, dI)) (ci := 0) (v := .ref q35) (ty := .array .int) (C := RX0) (T := TX0) (N := 9) hx hb hts iX0 tyX0 tyX0_ok nmX0 hown hK hP hD hS 0 rfl rfl 4 (by decide) l21 (fun _ h9 => h9) rfl hin rfl (by decide +kernel) rfl rfl (Nat.le_of_ble_eq_true rfl) dX0_init_37 (fun H locs hP hD hS => ?_)
  have hP : va_P (dC, dI) vwCl [(p0, .inr (0, [.null, .ref q8, .ref q17, .ref q26, .ref q35, .null, .null, .int 0, .int 0])), (q8, .inl (cI, 3367, .inl (fun _ => 0))), (q17, .inl (cI, 3367, .inl (fun _ => 0))), (q26, .inl (cI, 512, .inl (fun _ => 0))), (q35, .inl (cI, 512, .inl (fun _ => 0)))] H := hP
  have hD : va_D A [(p0, .inr (0, [.null, .ref q8, .ref q17, .ref q26, .ref q35, .null, .null, .int 0, .int 0])), (q8, .inl (cI, 3367, .inl (fun _ => 0))), (q17, .inl (cI, 3367, .inl (fun _ => 0))), (q26, .inl (cI, 512, .inl (fun _ => 0))), (q35, .inl (cI, 512, .inl (fun _ => 0)))] := hD
  refine lv_aload_n hx hb dX0_init_40 rfl (lv_at hl 0 rfl) ?_
  refine lv_sipush (v := nI 512) hx hb dX0_init_41 (by decide) ?_
  refine mv_newi hx hb harr hK hP hD hS hA (N := 512) (by decide) (Nat.le_of_ble_eq_true rfl) (Nat.le_of_ble_eq_true rfl) dX0_init_44 (fun q44 H hP hD hS => ?_)
  have hP : va_P (dC, dI) vwCl [(p0, .inr (0, [.null, .ref q8, .ref q17, .ref q26, .ref q35, .null, .null, .int 0, .int 0])), (q8, .inl (cI, 3367, .inl (fun _ => 0))), (q17, .inl (cI, 3367, .inl (fun _ => 0))), (q26, .inl (cI, 512, .inl (fun _ => 0))), (q35, .inl (cI, 512, .inl (fun _ => 0))), (q44, .inl (cI, 512, .inl (fun _ => 0)))] H := hP
  have hD : va_D A [(p0, .inr (0, [.null, .ref q8, .ref q17, .ref q26, .ref q35, .null, .null, .int 0, .int 0])), (q8, .inl (cI, 3367, .inl (fun _ => 0))), (q17, .inl (cI, 3367, .inl (fun _ => 0))), (q26, .inl (cI, 512, .inl (fun _ => 0))), (q35, .inl (cI, 512, .inl (fun _ => 0))), (q44, .inl (cI, 512, .inl (fun _ => 0)))] := hD
  refine W.widen (k := 5) (n := 8270) (Nat.le_of_ble_eq_true rfl) (Nat.le_of_ble_eq_true rfl) ?_
  refine va_putF (D := (dC, dI)) (ci := 0) (v := .ref q44) (ty := .array .int) (C := RX0) (T := TX0) (N := 9) hx hb hts iX0 tyX0 tyX0_ok nmX0 hown hK hP hD hS 0 rfl rfl 5 (by decide) l24 (fun _ h9 => h9) rfl hin rfl (by decide +kernel) rfl rfl (Nat.le_of_ble_eq_true rfl) dX0_init_46 (fun H locs hP hD hS => ?_)
  have hP : va_P (dC, dI) vwCl [(p0, .inr (0, [.null, .ref q8, .ref q17, .ref q26, .ref q35, .ref q44, .null, .int 0, .int 0])), (q8, .inl (cI, 3367, .inl (fun _ => 0))), (q17, .inl (cI, 3367, .inl (fun _ => 0))), (q26, .inl (cI, 512, .inl (fun _ => 0))), (q35, .inl (cI, 512, .inl (fun _ => 0))), (q44, .inl (cI, 512, .inl (fun _ => 0)))] H := hP
  have hD : va_D A [(p0, .inr (0, [.null, .ref q8, .ref q17, .ref q26, .ref q35, .ref q44, .null, .int 0, .int 0])), (q8, .inl (cI, 3367, .inl (fun _ => 0))), (q17, .inl (cI, 3367, .inl (fun _ => 0))), (q26, .inl (cI, 512, .inl (fun _ => 0))), (q35, .inl (cI, 512, .inl (fun _ => 0))), (q44, .inl (cI, 512, .inl (fun _ => 0)))] := hD
  refine lv_aload_n hx hb dX0_init_49 rfl (lv_at hl 0 rfl) ?_
  refine lv_sipush (v := nI 512) hx hb dX0_init_50 (by decide) ?_
  refine mv_newi hx hb harr hK hP hD hS hA (N := 512) (by decide) (Nat.le_of_ble_eq_true rfl) (Nat.le_of_ble_eq_true rfl) dX0_init_53 (fun q53 H hP hD hS => ?_)
  have hP : va_P (dC, dI) vwCl [(p0, .inr (0, [.null, .ref q8, .ref q17, .ref q26, .ref q35, .ref q44, .null, .int 0, .int 0])), (q8, .inl (cI, 3367, .inl (fun _ => 0))), (q17, .inl (cI, 3367, .inl (fun _ => 0))), (q26, .inl (cI, 512, .inl (fun _ => 0))), (q35, .inl (cI, 512, .inl (fun _ => 0))), (q44, .inl (cI, 512, .inl (fun _ => 0))), (q53, .inl (cI, 512, .inl (fun _ => 0)))] H := hP
  have hD : va_D A [(p0, .inr (0, [.null, .ref q8, .ref q17, .ref q26, .ref q35, .ref q44, .null, .int 0, .int 0])), (q8, .inl (cI, 3367, .inl (fun _ => 0))), (q17, .inl (cI, 3367, .inl (fun _ => 0))), (q26, .inl (cI, 512, .inl (fun _ => 0))), (q35, .inl (cI, 512, .inl (fun _ => 0))), (q44, .inl (cI, 512, .inl (fun _ => 0))), (q53, .inl (cI, 512, .inl (fun _ => 0)))] := hD
  refine W.widen (k := 6) (n := 8782) (Nat.le_of_ble_eq_true rfl) (Nat.le_of_ble_eq_true rfl) ?_
  refine va_putF (D := (dC, dI)) (ci := 0) (v := .ref q53) (ty := .array .int) (C := RX0) (T := TX0) (N := 9) hx hb hts iX0 tyX0 tyX0_ok nmX0 hown hK hP hD hS 0 rfl rfl 6 (by decide) l27 (fun _ h9 => h9) rfl hin rfl (by decide +kernel) rfl rfl (Nat.le_of_ble_eq_true rfl) dX0_init_55 (fun H locs hP hD hS => ?_)
  have hP : va_P (dC, dI) vwCl [(p0, .inr (0, [.null, .ref q8, .ref q17, .ref q26, .ref q35, .ref q44, .ref q53, .int 0, .int 0])), (q8, .inl (cI, 3367, .inl (fun _ => 0))), (q17, .inl (cI, 3367, .inl (fun _ => 0))), (q26, .inl (cI, 512, .inl (fun _ => 0))), (q35, .inl (cI, 512, .inl (fun _ => 0))), (q44, .inl (cI, 512, .inl (fun _ => 0))), (q53, .inl (cI, 512, .inl (fun _ => 0)))] H := hP
  have hD : va_D A [(p0, .inr (0, [.null, .ref q8, .ref q17, .ref q26, .ref q35, .ref q44, .ref q53, .int 0, .int 0])), (q8, .inl (cI, 3367, .inl (fun _ => 0))), (q17, .inl (cI, 3367, .inl (fun _ => 0))), (q26, .inl (cI, 512, .inl (fun _ => 0))), (q35, .inl (cI, 512, .inl (fun _ => 0))), (q44, .inl (cI, 512, .inl (fun _ => 0))), (q53, .inl (cI, 512, .inl (fun _ => 0)))] := hD
  refine lv_aload_n hx hb dX0_init_58 rfl (lv_at hl 0 rfl) ?_
  refine lv_iconst (v := 0) hx hb dX0_init_59 (by decide) ?_
  refine va_put (D := (dC, dI)) (ci := 0) (v := .int 0) (ty := .int) (C := RX0) (T := TX0) (N := 9) hx hb hts iX0 tyX0 tyX0_ok nmX0 hown hK hP hD hS 0 rfl rfl 7 (by decide) l30 (fun _ h9 => h9) rfl (by decide +kernel) rfl rfl (Nat.le_of_ble_eq_true rfl) dX0_init_60 (fun H locs hP hD hS => ?_)
  have hP : va_P (dC, dI) vwCl [(p0, .inr (0, [.null, .ref q8, .ref q17, .ref q26, .ref q35, .ref q44, .ref q53, .int 0, .int 0])), (q8, .inl (cI, 3367, .inl (fun _ => 0))), (q17, .inl (cI, 3367, .inl (fun _ => 0))), (q26, .inl (cI, 512, .inl (fun _ => 0))), (q35, .inl (cI, 512, .inl (fun _ => 0))), (q44, .inl (cI, 512, .inl (fun _ => 0))), (q53, .inl (cI, 512, .inl (fun _ => 0)))] H := hP
  have hD : va_D A [(p0, .inr (0, [.null, .ref q8, .ref q17, .ref q26, .ref q35, .ref q44, .ref q53, .int 0, .int 0])), (q8, .inl (cI, 3367, .inl (fun _ => 0))), (q17, .inl (cI, 3367, .inl (fun _ => 0))), (q26, .inl (cI, 512, .inl (fun _ => 0))), (q35, .inl (cI, 512, .inl (fun _ => 0))), (q44, .inl (cI, 512, .inl (fun _ => 0))), (q53, .inl (cI, 512, .inl (fun _ => 0)))] := hD
  refine lv_aload_n hx hb dX0_init_63 rfl (lv_at hl 0 rfl) ?_
  refine lv_iconst (v := 0) hx hb dX0_init_64 (by decide) ?_
  refine va_put (D := (dC, dI)) (ci := 0) (v := .int 0) (ty := .int) (C := RX0) (T := TX0) (N := 9) hx hb hts iX0 tyX0 tyX0_ok nmX0 hown hK hP hD hS 0 rfl rfl 8 (by decide) l34 (fun _ h9 => h9) rfl (by decide +kernel) rfl rfl (Nat.le_of_ble_eq_true rfl) dX0_init_65 (fun H locs hP hD hS => ?_)
  have hP : va_P (dC, dI) vwCl [(p0, .inr (0, [.null, .ref q8, .ref q17, .ref q26, .ref q35, .ref q44, .ref q53, .int 0, .int 0])), (q8, .inl (cI, 3367, .inl (fun _ => 0))), (q17, .inl (cI, 3367, .inl (fun _ => 0))), (q26, .inl (cI, 512, .inl (fun _ => 0))), (q35, .inl (cI, 512, .inl (fun _ => 0))), (q44, .inl (cI, 512, .inl (fun _ => 0))), (q53, .inl (cI, 512, .inl (fun _ => 0)))] H := hP
  have hD : va_D A [(p0, .inr (0, [.null, .ref q8, .ref q17, .ref q26, .ref q35, .ref q44, .ref q53, .int 0, .int 0])), (q8, .inl (cI, 3367, .inl (fun _ => 0))), (q17, .inl (cI, 3367, .inl (fun _ => 0))), (q26, .inl (cI, 512, .inl (fun _ => 0))), (q35, .inl (cI, 512, .inl (fun _ => 0))), (q44, .inl (cI, 512, .inl (fun _ => 0))), (q53, .inl (cI, 512, .inl (fun _ => 0)))] := hD
  refine lv_aload_n hx hb dX0_init_68 rfl (lv_at hl 0 rfl) ?_
  refine lv_aload_n hx hb dX0_init_69 rfl (lv_at hl 1 rfl) ?_
  refine va_putF (D := (dC, dI)) (ci := 0) (v := .ref r0) (ty := .object "GroupDesk$Rows") (C := RX0) (T := TX0) (N := 9) hx hb hts iX0 tyX0 tyX0_ok nmX0 hown hK hP hD hS 0 rfl rfl 0 (by decide) l37 (fun _ h9 => h9) rfl hin rfl (by decide +kernel) rfl rfl (Nat.le_of_ble_eq_true rfl) dX0_init_70 (fun H locs hP hD hS => ?_)
  have hP : va_P (dC, dI) vwCl [(p0, .inr (0, [.ref r0, .ref q8, .ref q17, .ref q26, .ref q35, .ref q44, .ref q53, .int 0, .int 0])), (q8, .inl (cI, 3367, .inl (fun _ => 0))), (q17, .inl (cI, 3367, .inl (fun _ => 0))), (q26, .inl (cI, 512, .inl (fun _ => 0))), (q35, .inl (cI, 512, .inl (fun _ => 0))), (q44, .inl (cI, 512, .inl (fun _ => 0))), (q53, .inl (cI, 512, .inl (fun _ => 0)))] H := hP
  have hD : va_D A [(p0, .inr (0, [.ref r0, .ref q8, .ref q17, .ref q26, .ref q35, .ref q44, .ref q53, .int 0, .int 0])), (q8, .inl (cI, 3367, .inl (fun _ => 0))), (q17, .inl (cI, 3367, .inl (fun _ => 0))), (q26, .inl (cI, 512, .inl (fun _ => 0))), (q35, .inl (cI, 512, .inl (fun _ => 0))), (q44, .inl (cI, 512, .inl (fun _ => 0))), (q53, .inl (cI, 512, .inl (fun _ => 0)))] := hD
  exact hret (q8, q17, q26, q35, q44, q53) trivial hP hD hS dX0_init_73
set_option maxHeartbeats 4000000 in
set_option maxRecDepth 100000 in
theorem c_X3_init (l : Launch) (dC : Nat → ClassId) (dI : Nat → Nat → Nat) (cI : ClassId) (m0 : Nat) : mCv l yX3_init wsX3_init ({ frames := 1, cells := 6, slots := 25400, locals := 32 }) (dC, dI) cI [.ref m0] [(m0, .inr (3, [.int 0, .int 0, .int 0, .null, .null, .null, .null, .int 0, .null, .null, .int 0]))] (fun _ => True) (fun u : Nat × Nat × Nat × Nat × Nat × Nat => wM cI m0 u.1 u.2.1 u.2.2.1 u.2.2.2.1 u.2.2.2.2.1 u.2.2.2.2.2 0 0 0 (fun _ => 0) (fun _ => 0) (fun _ => 0) (fun _ => 0) 1 (fun _ => 0) (fun _ => 0) 0) := by
  refine m_ofC (cc := cX3_init) (maxL := 1) (by decide) rfl rfl (Nat.le_of_ble_eq_true rfl) ?_
  intro p e s m args below meth c ls A Q hx hb hts hown hml hin hP hK hD hA hS hl hret
  have hown : s.vm.findClass RX3 = some m.cls := hown
  have hl : lv_has ls 1 [(0, .ref m0)] := hl
  have l7 := hts (.fieldLink RX3 7 "GroupDeskModel" "of" "[I") (by decide +kernel)
  have l13 := hts (.fieldLink RX3 13 "GroupDeskModel" "group" "[I") (by decide +kernel)
  have l16 := hts (.fieldLink RX3 16 "GroupDeskModel" "kind" "[I") (by decide +kernel)
  have l19 := hts (.fieldLink RX3 19 "GroupDeskModel" "value" "[I") (by decide +kernel)
  have l22 := hts (.fieldLink RX3 22 "GroupDeskModel" "rows" "I") (by decide +kernel)
  have l26 := hts (.fieldLink RX3 26 "GroupDeskModel" "from" "[I") (by decide +kernel)
  have l29 := hts (.fieldLink RX3 29 "GroupDeskModel" "numbers" "[I") (by decide +kernel)
  have iX3 : ∀ w ∈ u_ws RX3 TX3 11, w ∈ wsX3_init := by decide +kernel
  have harr := hts (.arrayClass .int) (by decide +kernel)
  refine lv_aload_n hx hb dX3_init_0 rfl (lv_at hl 0 rfl) ?_
  refine W.objInit hx hb hown (hts (.methodLink RX3 1 objectInit) (by decide +kernel)) (hts (.instanceMethod objectInit) (by decide +kernel)) (hts (.code objectInit ⟨#[0xb1]⟩ 1 none) (by decide +kernel)) rfl (by rw [hml]; exact hl.1) rfl dX3_init_1 (Nat.le_of_ble_eq_true rfl) (Nat.le_of_ble_eq_true rfl) ?_
  refine W.eq (g2 := F0 m 4 ls []) rfl ?_
  refine lv_aload_n hx hb dX3_init_4 rfl (lv_at hl 0 rfl) ?_
  refine lv_sipush (v := nI 4200) hx hb dX3_init_5 (by decide) ?_
  refine mv_newi hx hb harr hK hP hD hS hA (N := 4200) (by decide) (Nat.le_of_ble_eq_true rfl) (Nat.le_of_ble_eq_true rfl) dX3_init_8 (fun q8 H hP hD hS => ?_)
  have hP : va_P (dC, dI) vwCl [(m0, .inr (3, [.int 0, .int 0, .int 0, .null, .null, .null, .null, .int 0, .null, .null, .int 0])), (q8, .inl (cI, 4200, .inl (fun _ => 0)))] H := hP
  have hD : va_D A [(m0, .inr (3, [.int 0, .int 0, .int 0, .null, .null, .null, .null, .int 0, .null, .null, .int 0])), (q8, .inl (cI, 4200, .inl (fun _ => 0)))] := hD
  refine W.widen (k := 1) (n := 4200) (Nat.le_of_ble_eq_true rfl) (Nat.le_of_ble_eq_true rfl) ?_
  refine va_putF (D := (dC, dI)) (ci := 3) (v := .ref q8) (ty := .array .int) (C := RX3) (T := TX3) (N := 11) hx hb hts iX3 tyX3 tyX3_ok nmX3 hown hK hP hD hS 0 rfl rfl 3 (by decide) l7 (fun _ h9 => h9) rfl hin rfl (by decide +kernel) rfl rfl (Nat.le_of_ble_eq_true rfl) dX3_init_10 (fun H locs hP hD hS => ?_)
  have hP : va_P (dC, dI) vwCl [(m0, .inr (3, [.int 0, .int 0, .int 0, .ref q8, .null, .null, .null, .int 0, .null, .null, .int 0])), (q8, .inl (cI, 4200, .inl (fun _ => 0)))] H := hP
  have hD : va_D A [(m0, .inr (3, [.int 0, .int 0, .int 0, .ref q8, .null, .null, .null, .int 0, .null, .null, .int 0])), (q8, .inl (cI, 4200, .inl (fun _ => 0)))] := hD
  refine lv_aload_n hx hb dX3_init_13 rfl (lv_at hl 0 rfl) ?_
  refine lv_sipush (v := nI 4200) hx hb dX3_init_14 (by decide) ?_
  refine mv_newi hx hb harr hK hP hD hS hA (N := 4200) (by decide) (Nat.le_of_ble_eq_true rfl) (Nat.le_of_ble_eq_true rfl) dX3_init_17 (fun q17 H hP hD hS => ?_)
  have hP : va_P (dC, dI) vwCl [(m0, .inr (3, [.int 0, .int 0, .int 0, .ref q8, .null, .null, .null, .int 0, .null, .null, .int 0])), (q8, .inl (cI, 4200, .inl (fun _ => 0))), (q17, .inl (cI, 4200, .inl (fun _ => 0)))] H := hP
  have hD : va_D A [(m0, .inr (3, [.int 0, .int 0, .int 0, .ref q8, .null, .null, .null, .int 0, .null, .null, .int 0])), (q8, .inl (cI, 4200, .inl (fun _ => 0))), (q17, .inl (cI, 4200, .inl (fun _ => 0)))] := hD
  refine W.widen (k := 2) (n := 8400) (Nat.le_of_ble_eq_true rfl) (Nat.le_of_ble_eq_true rfl) ?_
  refine va_putF (D := (dC, dI)) (ci := 3) (v := .ref q17) (ty := .array .int) (C := RX3) (T := TX3) (N := 11) hx hb hts iX3 tyX3 tyX3_ok nmX3 hown hK hP hD hS 0 rfl rfl 4 (by decide) l13 (fun _ h9 => h9) rfl hin rfl (by decide +kernel) rfl rfl (Nat.le_of_ble_eq_true rfl) dX3_init_19 (fun H locs hP hD hS => ?_)
  have hP : va_P (dC, dI) vwCl [(m0, .inr (3, [.int 0, .int 0, .int 0, .ref q8, .ref q17, .null, .null, .int 0, .null, .null, .int 0])), (q8, .inl (cI, 4200, .inl (fun _ => 0))), (q17, .inl (cI, 4200, .inl (fun _ => 0)))] H := hP
  have hD : va_D A [(m0, .inr (3, [.int 0, .int 0, .int 0, .ref q8, .ref q17, .null, .null, .int 0, .null, .null, .int 0])), (q8, .inl (cI, 4200, .inl (fun _ => 0))), (q17, .inl (cI, 4200, .inl (fun _ => 0)))] := hD
  refine lv_aload_n hx hb dX3_init_22 rfl (lv_at hl 0 rfl) ?_
  refine lv_sipush (v := nI 4200) hx hb dX3_init_23 (by decide) ?_
  refine mv_newi hx hb harr hK hP hD hS hA (N := 4200) (by decide) (Nat.le_of_ble_eq_true rfl) (Nat.le_of_ble_eq_true rfl) dX3_init_26 (fun q26 H hP hD hS => ?_)
  have hP : va_P (dC, dI) vwCl [(m0, .inr (3, [.int 0, .int 0, .int 0, .ref q8, .ref q17, .null, .null, .int 0, .null, .null, .int 0])), (q8, .inl (cI, 4200, .inl (fun _ => 0))), (q17, .inl (cI, 4200, .inl (fun _ => 0))), (q26, .inl (cI, 4200, .inl (fun _ => 0)))] H := hP
  have hD : va_D A [(m0, .inr (3, [.int 0, .int 0, .int 0, .ref q8, .ref q17, .null, .null, .int 0, .null, .null, .int 0])), (q8, .inl (cI, 4200, .inl (fun _ => 0))), (q17, .inl (cI, 4200, .inl (fun _ => 0))), (q26, .inl (cI, 4200, .inl (fun _ => 0)))] := hD
  refine W.widen (k := 3) (n := 12600) (Nat.le_of_ble_eq_true rfl) (Nat.le_of_ble_eq_true rfl) ?_
  refine va_putF (D := (dC, dI)) (ci := 3) (v := .ref q26) (ty := .array .int) (C := RX3) (T := TX3) (N := 11) hx hb hts iX3 tyX3 tyX3_ok nmX3 hown hK hP hD hS 0 rfl rfl 5 (by decide) l16 (fun _ h9 => h9) rfl hin rfl (by decide +kernel) rfl rfl (Nat.le_of_ble_eq_true rfl) dX3_init_28 (fun H locs hP hD hS => ?_)
  have hP : va_P (dC, dI) vwCl [(m0, .inr (3, [.int 0, .int 0, .int 0, .ref q8, .ref q17, .ref q26, .null, .int 0, .null, .null, .int 0])), (q8, .inl (cI, 4200, .inl (fun _ => 0))), (q17, .inl (cI, 4200, .inl (fun _ => 0))), (q26, .inl (cI, 4200, .inl (fun _ => 0)))] H := hP
  have hD : va_D A [(m0, .inr (3, [.int 0, .int 0, .int 0, .ref q8, .ref q17, .ref q26, .null, .int 0, .null, .null, .int 0])), (q8, .inl (cI, 4200, .inl (fun _ => 0))), (q17, .inl (cI, 4200, .inl (fun _ => 0))), (q26, .inl (cI, 4200, .inl (fun _ => 0)))] := hD
  refine lv_aload_n hx hb dX3_init_31 rfl (lv_at hl 0 rfl) ?_
  refine lv_sipush (v := nI 4200) hx hb dX3_init_32 (by decide) ?_
  refine mv_newi hx hb harr hK hP hD hS hA (N := 4200) (by decide) (Nat.le_of_ble_eq_true rfl) (Nat.le_of_ble_eq_true rfl) dX3_init_35 (fun q35 H hP hD hS => ?_)
  have hP : va_P (dC, dI) vwCl [(m0, .inr (3, [.int 0, .int 0, .int 0, .ref q8, .ref q17, .ref q26, .null, .int 0, .null, .null, .int 0])), (q8, .inl (cI, 4200, .inl (fun _ => 0))), (q17, .inl (cI, 4200, .inl (fun _ => 0))), (q26, .inl (cI, 4200, .inl (fun _ => 0))), (q35, .inl (cI, 4200, .inl (fun _ => 0)))] H := hP
  have hD : va_D A [(m0, .inr (3, [.int 0, .int 0, .int 0, .ref q8, .ref q17, .ref q26, .null, .int 0, .null, .null, .int 0])), (q8, .inl (cI, 4200, .inl (fun _ => 0))), (q17, .inl (cI, 4200, .inl (fun _ => 0))), (q26, .inl (cI, 4200, .inl (fun _ => 0))), (q35, .inl (cI, 4200, .inl (fun _ => 0)))] := hD
  refine W.widen (k := 4) (n := 16800) (Nat.le_of_ble_eq_true rfl) (Nat.le_of_ble_eq_true rfl) ?_
  refine va_putF (D := (dC, dI)) (ci := 3) (v := .ref q35) (ty := .array .int) (C := RX3) (T := TX3) (N := 11) hx hb hts iX3 tyX3 tyX3_ok nmX3 hown hK hP hD hS 0 rfl rfl 6 (by decide) l19 (fun _ h9 => h9) rfl hin rfl (by decide +kernel) rfl rfl (Nat.le_of_ble_eq_true rfl) dX3_init_37 (fun H locs hP hD hS => ?_)
  have hP : va_P (dC, dI) vwCl [(m0, .inr (3, [.int 0, .int 0, .int 0, .ref q8, .ref q17, .ref q26, .ref q35, .int 0, .null, .null, .int 0])), (q8, .inl (cI, 4200, .inl (fun _ => 0))), (q17, .inl (cI, 4200, .inl (fun _ => 0))), (q26, .inl (cI, 4200, .inl (fun _ => 0))), (q35, .inl (cI, 4200, .inl (fun _ => 0)))] H := hP
  have hD : va_D A [(m0, .inr (3, [.int 0, .int 0, .int 0, .ref q8, .ref q17, .ref q26, .ref q35, .int 0, .null, .null, .int 0])), (q8, .inl (cI, 4200, .inl (fun _ => 0))), (q17, .inl (cI, 4200, .inl (fun _ => 0))), (q26, .inl (cI, 4200, .inl (fun _ => 0))), (q35, .inl (cI, 4200, .inl (fun _ => 0)))] := hD
  refine lv_aload_n hx hb dX3_init_40 rfl (lv_at hl 0 rfl) ?_
  refine lv_iconst (v := 1) hx hb dX3_init_41 (by decide) ?_
  refine va_put (D := (dC, dI)) (ci := 3) (v := .int 1) (ty := .int) (C := RX3) (T := TX3) (N := 11) hx hb hts iX3 tyX3 tyX3_ok nmX3 hown hK hP hD hS 0 rfl rfl 7 (by decide) l22 (fun _ h9 => h9) rfl (by decide +kernel) rfl rfl (Nat.le_of_ble_eq_true rfl) dX3_init_42 (fun H locs hP hD hS => ?_)
  have hP : va_P (dC, dI) vwCl [(m0, .inr (3, [.int 0, .int 0, .int 0, .ref q8, .ref q17, .ref q26, .ref q35, .int 1, .null, .null, .int 0])), (q8, .inl (cI, 4200, .inl (fun _ => 0))), (q17, .inl (cI, 4200, .inl (fun _ => 0))), (q26, .inl (cI, 4200, .inl (fun _ => 0))), (q35, .inl (cI, 4200, .inl (fun _ => 0)))] H := hP
  have hD : va_D A [(m0, .inr (3, [.int 0, .int 0, .int 0, .ref q8, .ref q17, .ref q26, .ref q35, .int 1, .null, .null, .int 0])), (q8, .inl (cI, 4200, .inl (fun _ => 0))), (q17, .inl (cI, 4200, .inl (fun _ => 0))), (q26, .inl (cI, 4200, .inl (fun _ => 0))), (q35, .inl (cI, 4200, .inl (fun _ => 0)))] := hD
  refine lv_aload_n hx hb dX3_init_45 rfl (lv_at hl 0 rfl) ?_
  refine lv_sipush (v := nI 4200) hx hb dX3_init_46 (by decide) ?_
  refine mv_newi hx hb harr hK hP hD hS hA (N := 4200) (by decide) (Nat.le_of_ble_eq_true rfl) (Nat.le_of_ble_eq_true rfl) dX3_init_49 (fun q49 H hP hD hS => ?_)
  have hP : va_P (dC, dI) vwCl [(m0, .inr (3, [.int 0, .int 0, .int 0, .ref q8, .ref q17, .ref q26, .ref q35, .int 1, .null, .null, .int 0])), (q8, .inl (cI, 4200, .inl (fun _ => 0))), (q17, .inl (cI, 4200, .inl (fun _ => 0))), (q26, .inl (cI, 4200, .inl (fun _ => 0))), (q35, .inl (cI, 4200, .inl (fun _ => 0))), (q49, .inl (cI, 4200, .inl (fun _ => 0)))] H := hP
  have hD : va_D A [(m0, .inr (3, [.int 0, .int 0, .int 0, .ref q8, .ref q17, .ref q26, .ref q35, .int 1, .null, .null, .int 0])), (q8, .inl (cI, 4200, .inl (fun _ => 0))), (q17, .inl (cI, 4200, .inl (fun _ => 0))), (q26, .inl (cI, 4200, .inl (fun _ => 0))), (q35, .inl (cI, 4200, .inl (fun _ => 0))), (q49, .inl (cI, 4200, .inl (fun _ => 0)))] := hD
  refine W.widen (k := 5) (n := 21000) (Nat.le_of_ble_eq_true rfl) (Nat.le_of_ble_eq_true rfl) ?_
  refine va_putF (D := (dC, dI)) (ci := 3) (v := .ref q49) (ty := .array .int) (C := RX3) (T := TX3) (N := 11) hx hb hts iX3 tyX3 tyX3_ok nmX3 hown hK hP hD hS 0 rfl rfl 8 (by decide) l26 (fun _ h9 => h9) rfl hin rfl (by decide +kernel) rfl rfl (Nat.le_of_ble_eq_true rfl) dX3_init_51 (fun H locs hP hD hS => ?_)
  have hP : va_P (dC, dI) vwCl [(m0, .inr (3, [.int 0, .int 0, .int 0, .ref q8, .ref q17, .ref q26, .ref q35, .int 1, .ref q49, .null, .int 0])), (q8, .inl (cI, 4200, .inl (fun _ => 0))), (q17, .inl (cI, 4200, .inl (fun _ => 0))), (q26, .inl (cI, 4200, .inl (fun _ => 0))), (q35, .inl (cI, 4200, .inl (fun _ => 0))), (q49, .inl (cI, 4200, .inl (fun _ => 0)))] H := hP
  have hD : va_D A [(m0, .inr (3, [.int 0, .int 0, .int 0, .ref q8, .ref q17, .ref q26, .ref q35, .int 1, .ref q49, .null, .int 0])), (q8, .inl (cI, 4200, .inl (fun _ => 0))), (q17, .inl (cI, 4200, .inl (fun _ => 0))), (q26, .inl (cI, 4200, .inl (fun _ => 0))), (q35, .inl (cI, 4200, .inl (fun _ => 0))), (q49, .inl (cI, 4200, .inl (fun _ => 0)))] := hD
  refine lv_aload_n hx hb dX3_init_54 rfl (lv_at hl 0 rfl) ?_
  refine lv_sipush (v := nI 4400) hx hb dX3_init_55 (by decide) ?_
  refine mv_newi hx hb harr hK hP hD hS hA (N := 4400) (by decide) (Nat.le_of_ble_eq_true rfl) (Nat.le_of_ble_eq_true rfl) dX3_init_58 (fun q58 H hP hD hS => ?_)
  have hP : va_P (dC, dI) vwCl [(m0, .inr (3, [.int 0, .int 0, .int 0, .ref q8, .ref q17, .ref q26, .ref q35, .int 1, .ref q49, .null, .int 0])), (q8, .inl (cI, 4200, .inl (fun _ => 0))), (q17, .inl (cI, 4200, .inl (fun _ => 0))), (q26, .inl (cI, 4200, .inl (fun _ => 0))), (q35, .inl (cI, 4200, .inl (fun _ => 0))), (q49, .inl (cI, 4200, .inl (fun _ => 0))), (q58, .inl (cI, 4400, .inl (fun _ => 0)))] H := hP
  have hD : va_D A [(m0, .inr (3, [.int 0, .int 0, .int 0, .ref q8, .ref q17, .ref q26, .ref q35, .int 1, .ref q49, .null, .int 0])), (q8, .inl (cI, 4200, .inl (fun _ => 0))), (q17, .inl (cI, 4200, .inl (fun _ => 0))), (q26, .inl (cI, 4200, .inl (fun _ => 0))), (q35, .inl (cI, 4200, .inl (fun _ => 0))), (q49, .inl (cI, 4200, .inl (fun _ => 0))), (q58, .inl (cI, 4400, .inl (fun _ => 0)))] := hD
  refine W.widen (k := 6) (n := 25400) (Nat.le_of_ble_eq_true rfl) (Nat.le_of_ble_eq_true rfl) ?_
  refine va_putF (D := (dC, dI)) (ci := 3) (v := .ref q58) (ty := .array .int) (C := RX3) (T := TX3) (N := 11) hx hb hts iX3 tyX3 tyX3_ok nmX3 hown hK hP hD hS 0 rfl rfl 9 (by decide) l29 (fun _ h9 => h9) rfl hin rfl (by decide +kernel) rfl rfl (Nat.le_of_ble_eq_true rfl) dX3_init_60 (fun H locs hP hD hS => ?_)
  have hP : va_P (dC, dI) vwCl [(m0, .inr (3, [.int 0, .int 0, .int 0, .ref q8, .ref q17, .ref q26, .ref q35, .int 1, .ref q49, .ref q58, .int 0])), (q8, .inl (cI, 4200, .inl (fun _ => 0))), (q17, .inl (cI, 4200, .inl (fun _ => 0))), (q26, .inl (cI, 4200, .inl (fun _ => 0))), (q35, .inl (cI, 4200, .inl (fun _ => 0))), (q49, .inl (cI, 4200, .inl (fun _ => 0))), (q58, .inl (cI, 4400, .inl (fun _ => 0)))] H := hP
  have hD : va_D A [(m0, .inr (3, [.int 0, .int 0, .int 0, .ref q8, .ref q17, .ref q26, .ref q35, .int 1, .ref q49, .ref q58, .int 0])), (q8, .inl (cI, 4200, .inl (fun _ => 0))), (q17, .inl (cI, 4200, .inl (fun _ => 0))), (q26, .inl (cI, 4200, .inl (fun _ => 0))), (q35, .inl (cI, 4200, .inl (fun _ => 0))), (q49, .inl (cI, 4200, .inl (fun _ => 0))), (q58, .inl (cI, 4400, .inl (fun _ => 0)))] := hD
  exact hret (q8, q17, q26, q35, q49, q58) trivial hP hD hS dX3_init_63
