section MX
variable {p : Program} {l : Launch} {e : Env} {R : Room} {s : State} {m : MethodId} {args : Array Value} {below : List Frame} {meth : Method} {c : Code} {H : Heap} {locs : List Loc} {cells slots : Nat} {Q : State → Prop}
variable {cc bytes : ByteArray} {pc maxL nL n index : Nat} {ret : Option FieldType} {ls : Array Slot} {rest st0 As : List Value} {D : va_G} {cI : ClassId} {A : Nat → Prop} {b : Nat} {y : MethodName} {ws Ts : List Cond} {rm : Room} {own C : String} {wc wr : va_W}
/-- a call that may throw -/
theorem m_xVi {S0 : Type} {post : Int32 → S0 → Prop} {w1 : S0 → va_W} {px : Prop} (S : CallFix p m c cc nL s args Ts own) (hM : mXi l y ws rm D cI (.ref b :: As) wc post w1 px) (cw : CallW R s args own C index y bytes maxL ret ws rm 1 6 n) (hP : va_P D vwCl (wr ++ wc) H) (hK : va_K D vwCl [(cI, .int)] s) (hE : xEnv A s s.heap) (hD : va_D A (wr ++ wc)) (hS : va_S A s.heap H locs) (hA : ∀ q, s.heap.size ≤ q → A q) (ci q0 : Nat) {T : u_T} {N : Nat} {fs : List Value} (hc : vwCl[ci]? = some (C, T, N)) (he : wc[q0]? = some (b, .inr (ci, fs)))
    (hn : As.length = n) (hsize : ls.size = nL) (hst : st0 = As.reverse ++ .ref b :: rest) (hW : (rest.map fun v => v.category).sum ≤ 8) (hdg : decode cc pc = .ok (.invokevirtual index, 3)) (hf : cells + 1 ≤ R.cells ∧ slots + 6 ≤ R.slots)
    (kx : ∀ (ce : Cell) (q9 : Addr) (H1 : Heap) (locs1 : List Loc), px → va_P D vwCl (wr ++ wc) H1 → va_D A (wr ++ wc) → va_S A s.heap H1 locs1 → H1[q9]? = some ce → ce.vm = .none → s.vm.findClass xN = some ce.cls → vx_W p l e R s m args below meth c H1 locs1 (cells + 1) (slots + 6) Q (F0 m pc ls rest) q9)
    (kk : ∀ (r : Int32) (u : S0) (H1 : Heap) (locs1 : List Loc), post r u → va_P D vwCl (wr ++ w1 u) H1 → va_D A (wr ++ w1 u) → va_S A s.heap H1 locs1 → W p l e R s m args below meth c H1 locs1 (cells + 1) (slots + 6) Q (F0 m (pc + 3) ls (.int r :: rest))) : W p l e R s m args below meth c H locs cells slots Q (F0 m pc ls st0) := by
  have hPc := ma_P hP
  have hF := ma_free hD hS hA
  refine vx_calli (vx_runV (As := As) (rest := rest) S (hM H.size) cw ⟨mPx_blind, va_recv hK hPc hc he, fun U hU hW => ⟨rfl, ⟨by rw [hU], by rw [hU]; exact hPc, va_K.moved hW.alike hK, (ma_D hD).weaken (fun _ _ _ _ => trivial)⟩, by rw [hU]; exact ((hE.kept hS.2.1).narrow hF).warm hW⟩⟩ rfl hn hsize hst (lv_room hW) hdg hf) hS (fun q _ h => hF q h) hF (fun q _ h => hF q h) (fun E ce q9 u t H1 locs1 ht hvm hw hB hz1 hk1 hS1 hce hcv hcl => ?_) (fun r u t H1 locs1 ht hvm hw hB hz1 hk1 hS1 => ?_)
  · obtain ⟨rfl, hP1, -, hD1⟩ := hB
    rw [ht] at hP1
    obtain ⟨hP2, hD2⟩ := ma_join hP hD hk1 hF hP1 hD1
    exact kx ce q9 H1 locs1 hw hP2 hD2 hS1 hce hcv hcl
  · obtain ⟨hP1, -, hD1⟩ := hB
    rw [ht] at hP1
    obtain ⟨hP2, hD2⟩ := ma_join hP hD hk1 hF hP1 hD1
    exact kk r u H1 locs1 hw hP2 hD2 hS1
end MX
/-- a body with a table of its own that always returns -/
theorem m_ofWH {l : Launch} {y : MethodName} {ws ws' : List Cond} {rm : Room} {Pc : Array Value → State → Prop} {Qc : Array Value → State → Outcome → State → Prop} {mc ms : Nat} {free : Addr → Prop} {cc : ByteArray} {maxL : Nat} {ret : Option FieldType} {hh : List (Nat × Nat × Nat × Nat)}
    (hy : plainName y.cls = true) (hw : ws = Cond.codeWith y cc maxL ret hh :: ws')
    (body : ∀ p e s m args below meth c s₁, BodyLoose p l y (headSpec ws rm) cc maxL ret e s m args below meth c s₁ → c.maxLocals = maxL → Pc args s →
      W p l e rm s m args below meth c s.heap [] 0 0 (MQ below Qc args s mc ms free) (entryFrame m args maxL)) : Met l y ws rm Pc Qc mc ms free := by
  refine MetFree.of_bodyS (code := cc) (maxLocals := maxL) (ret := ret) hy ?_ ?_
  · intro args s m h hn
    obtain ⟨m9, meth, c, hn9, h1, h2, h3, h4, -, h5, h6, -⟩ := Cond.codeWith_spec (atoms_spec (ws := ws) h _ (by rw [hw]; exact List.mem_cons_self))
    cases hn.symm.trans hn9
    exact ⟨meth, c, h1, h2, h3, h4, h5, h6⟩
  · intro p e s m args below meth c s₁ B hml hP _
    have hh0 : s₁.heap = s.heap := by rw [B.state]; rfl
    obtain ⟨t, a1, o, b1, b2, b3⟩ := body p e s m args below meth c s₁ B hml hP s₁ hh0 (Stand.of_body B)
    exact ⟨t, o, a1, b1, b2, b3⟩
/-- the law's row of one long -/
abbrev wO (o0 : Nat) (cL : ClassId) (ol : Nat → Int64) : va_W := [(o0, .inl (cL, 1, .inr (.inl ol)))]
def mPh (D : va_G) (cI cL : ClassId) (wc : va_W) (sz : Nat) : State → Prop := fun U => U.heap.size = sz ∧ va_P D vwCl wc U.heap ∧ va_K D vwCl [(cI, .int), (cL, .long)] U ∧ va_D (fun _ => True) wc ∧ xEnv (va_A wc sz) U U.heap
theorem mPh_blind {D : va_G} {cI cL : ClassId} {wc : va_W} {sz : Nat} {av : List Value} : FrameBlind (va_Pc av (mPh D cI cL wc sz)) := fun a U g mk q => by
  obtain ⟨q0, q1, qP, qK, qD, qE⟩ := q
  exact ⟨q0, q1, qP, va_K.moved (u := U) (U := U.calling g mk a) (Vm.Alike.refl U.vm) qK, qD, xEnv.same (u := U) (U := U.calling g mk a) rfl qE⟩
/-- a helper of the law: what it calls answers v, which goes into the row, or throws -/
def hPost {S0 : Type} (ol : Nat → Int64) (u0 : S0) (post : Int32 → S0 → Prop) (px : Prop) (r : Int32) (u : (Nat → Int64) × S0) : Prop := (r = 1 ∧ px ∧ u = (ol, u0)) ∨ ∃ v : Int32, r = 0 ∧ post v u.2 ∧ u.1 = vp_updL ol 0 v.toInt64
def mHi {S0 : Type} (l : Launch) (y : MethodName) (ws : List Cond) (rm : Room) (D : va_G) (cI cL : ClassId) (av : List Value) (o0 : Nat) (ol : Nat → Int64) (u0 : S0) (post : Int32 → S0 → Prop) (w1 : S0 → va_W) (px : Prop) : Prop := ∀ sz : Nat, Met l y ws rm (va_Pc av (mPh D cI cL (wO o0 cL ol ++ w1 u0) sz)) (va_Qi (hPost ol u0 post px) (fun u t => va_P D vwCl (wO o0 cL u.1 ++ w1 u.2) t.heap ∧ va_D (va_A (wO o0 cL ol ++ w1 u0) sz) (wO o0 cL u.1 ++ w1 u.2)) (va_A (wO o0 cL ol ++ w1 u0) sz)) 1 6 (va_A (wO o0 cL ol ++ w1 u0) sz)
theorem m_ofH {S0 : Type} {l : Launch} {y : MethodName} {ws ws' : List Cond} {rm : Room} {D : va_G} {cI cL : ClassId} {av : List Value} {o0 : Nat} {ol : Nat → Int64} {u0 : S0} {post : Int32 → S0 → Prop} {w1 : S0 → va_W} {px : Prop} {cc : ByteArray} {maxL : Nat} {hh : List (Nat × Nat × Nat × Nat)} (hy : plainName y.cls = true) (hw : ws = Cond.codeWith y cc maxL (some .int) hh :: ws') (hL : (lg_sl av).length ≤ maxL)
    (body : ∀ (p : Program) (e : Env) (s : State) (m : MethodId) (args : Array Value) (below : List Frame) (meth : Method) (c : Code) (ls : Array Slot) (A : Nat → Prop) (Q : State → Prop), p.tables.exec = Jvm.exec → c.code = cc → (∀ w ∈ ws, w.before args s = true) → s.vm.findClass y.cls = some m.cls → c.maxLocals = maxL → c.exceptionTable.toList = tableOf hh → va_P D vwCl (wO o0 cL ol ++ w1 u0) s.heap → va_K D vwCl [(cI, .int), (cL, .long)] s → va_D A (wO o0 cL ol ++ w1 u0) → (∀ q : Nat, s.heap.size ≤ q → A q) → va_S A s.heap s.heap [] → xEnv A s s.heap → lv_has ls maxL (lv_args 0 av) →
      (∀ {pc : Nat} {ls : Array Slot} {H : Heap} {locs : List Loc} (v : Int32) (u : (Nat → Int64) × S0), hPost ol u0 post px v u → va_P D vwCl (wO o0 cL u.1 ++ w1 u.2) H → va_D A (wO o0 cL u.1 ++ w1 u.2) → va_S A s.heap H locs → decode cc pc = .ok (.ireturn, 1) → W p l e rm s m args below meth c H locs 1 6 Q (F0 m pc ls [.int v])) →
      W p l e rm s m args below meth c s.heap [] 0 0 Q (F0 m 0 ls [])) : mHi l y ws rm D cI cL av o0 ol u0 post w1 px := by
  intro sz
  refine m_ofWH (cc := cc) (maxL := maxL) (ret := some .int) (hh := hh) hy hw ?_
  intro p e s m args below meth c s₁ B hml hv
  obtain ⟨rfl, rfl, hP, hK2, hD0, hE⟩ := hv
  rw [lg_entry_eq]
  have hts := atoms_spec (ws := ws) B.pre
  exact body p e s m _ below meth c _ _ _ B.exec B.bytes hts (findClass_of_methodNamed B.named) hml (vx_table (x := y) (hh := hh) B (hts _ (by rw [hw]; exact List.mem_cons_self))) hP hK2 hD0.self (fun q h => Or.inr h) va_S.rf hE (lv_entry av hL)
    (fun v u hp hP hD hS hd => W.iret B.exec B.bytes B.returns (fun t ht hW => ⟨⟨v, u, rfl, hp, by rw [ht]; exact hP, hD⟩, hS.F ht⟩) hS.2.2 hd B.notSynchronized)
