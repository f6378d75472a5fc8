/-! what a throw rests on beside the tables' good words -/
def xN : String := "java/lang/IndexOutOfBoundsException"
def xB : List Cond := [.declares (Bundle.initS "java/lang/RuntimeException"), .declares (Bundle.initS "java/lang/Exception"), .declares (Bundle.initS Bundle.tN), .castable xN xN]
def xL : List Cond := vx_atS RX2 53 xN ["java/lang/RuntimeException", "java/lang/Exception"]
theorem xL_bad : ∀ w ∈ xL.filter (fun w => !goodWord w), w ∈ xB := by decide +kernel
theorem xL_ot : ∀ w ∈ Cond.classLink RX2 49 xN :: Cond.initialized xN :: xL, vx_ot w = true := by decide +kernel
def xS (U : State) : Prop := (∃ a, vk_R RX2 51 "no such name" a U) ∧ (∃ a, vk_R RX2 70 "no such cell" a U) ∧ (∃ a, vk_R RX2 72 "no such name or what" a U) ∧ ∃ a, vk_R RX2 81 "no such number" a U
def xEnv (A : Nat → Prop) (U : State) (H : Heap) : Prop := (vx_Zq Bundle.tN "UNASSIGNED_STACK" Bundle.steD A U H ∧ vx_Zq Bundle.tN "SUPPRESSED_SENTINEL" Bundle.listD A U H) ∧ (∀ w ∈ xB, va_Nw w U) ∧ xS U
theorem xB_moved {u U : State} (hvm : u.vm.Alike U.vm) (h : ∀ w ∈ xB, va_Nw w u) : ∀ w ∈ xB, va_Nw w U := by
  have tr : ∀ {c : Cond}, c.onTables = true → c.before #[] (u.setVm U.vm) = true → c.before #[] U = true := by
    intro c hc h
    have e := Cond.onTables_vm (A := #[]) (A' := #[]) (U := u) (U' := U) U.vm c hc
    have hU : U.setVm U.vm = U := rfl
    rw [hU] at e
    rw [← e]
    exact h
  intro w hw
  have h1 : w.before #[] u = true := h w hw
  simp only [xB, List.mem_cons, List.not_mem_nil, or_false] at hw
  rcases hw with rfl | rfl | rfl | rfl
  · exact tr rfl (by rw [Cond.declares_setVm hvm]; exact h1)
  · exact tr rfl (by rw [Cond.declares_setVm hvm]; exact h1)
  · exact tr rfl (by rw [Cond.declares_setVm hvm]; exact h1)
  · exact tr rfl (by rw [Cond.castable_setVm hvm]; exact h1)
theorem xEnv.kept {A : Nat → Prop} {U : State} {H H1 : Heap} (h : xEnv A U H) (hq : ∀ a : Nat, a < H.size → ¬ A a → H1[a]? = H[a]?) : xEnv A U H1 := ⟨⟨vx_Zq.kept h.1.1 hq, vx_Zq.kept h.1.2 hq⟩, h.2⟩
theorem xEnv.narrow {A B : Nat → Prop} {U : State} {H : Heap} (h : xEnv A U H) (hAB : ∀ q, B q → A q) : xEnv B U H := ⟨⟨vx_Zq.narrow h.1.1 hAB, vx_Zq.narrow h.1.2 hAB⟩, h.2⟩
theorem xS.warm {u U : State} (hW : u.WarmedH U.vm) (h : xS u) : xS U := by
  obtain ⟨⟨a, ha⟩, ⟨b, hb⟩, ⟨c, hc⟩, ⟨d, hd⟩⟩ := h
  exact ⟨⟨a, vk_R.warm hW ha⟩, ⟨b, vk_R.warm hW hb⟩, ⟨c, vk_R.warm hW hc⟩, ⟨d, vk_R.warm hW hd⟩⟩
theorem xS.same {u U : State} (hv : U.vm = u.vm) (h : xS u) : xS U := by
  obtain ⟨⟨a, ha⟩, ⟨b, hb⟩, ⟨c, hc⟩, ⟨d, hd⟩⟩ := h
  exact ⟨⟨a, vk_R.same hv ha⟩, ⟨b, vk_R.same hv hb⟩, ⟨c, vk_R.same hv hc⟩, ⟨d, vk_R.same hv hd⟩⟩
theorem xEnv.warm {A : Nat → Prop} {u U : State} {H : Heap} (hW : u.WarmedH U.vm) (h : xEnv A u H) : xEnv A U H := ⟨⟨vx_Zq.moved hW.alike h.1.1, vx_Zq.moved hW.alike h.1.2⟩, xB_moved hW.alike h.2.1, xS.warm hW h.2.2⟩
theorem xEnv.same {A : Nat → Prop} {u U : State} {H : Heap} (hv : U.vm = u.vm) (h : xEnv A u H) : xEnv A U H := ⟨⟨vx_Zq.moved (by rw [hv]; exact Vm.Alike.refl _) h.1.1, vx_Zq.moved (by rw [hv]; exact Vm.Alike.refl _) h.1.2⟩, xB_moved (by rw [hv]; exact Vm.Alike.refl _) h.2.1, xS.same hv h.2.2⟩
/-- a writer that may throw instead, and then has changed nothing -/
def mPx (D : va_G) (cI : ClassId) (wc : va_W) (sz : Nat) : State → Prop := fun U => mPw D cI wc sz U ∧ xEnv (va_A wc sz) U U.heap
def mXi {S : Type} (l : Launch) (y : MethodName) (ws : List Cond) (rm : Room) (D : va_G) (cI : ClassId) (av : List Value) (wc : va_W) (post : Int32 → S → Prop) (w1 : S → va_W) (px : Prop) : Prop := ∀ sz : Nat, vx_Met l y ws rm (va_Pc av (mPx D cI wc sz)) (va_Qi post (fun u => mBw D cI (va_A wc sz) (w1 u)) (va_A wc sz)) (vx_X (fun _ : Unit => px) (fun E _ t => E = xN ∧ mBw D cI (va_A wc sz) wc t) (va_A wc sz)) 1 6 (va_A wc sz)
theorem mPx_blind {D : va_G} {cI : ClassId} {wc : va_W} {sz : Nat} {av : List Value} : FrameBlind (va_Pc av (mPx D cI wc sz)) := fun a U g mk q => by
  obtain ⟨q0, ⟨q1, qP, qK, qD⟩, qE⟩ := q
  exact ⟨q0, ⟨q1, qP, va_K.moved (u := U) (U := U.calling g mk a) (Vm.Alike.refl U.vm) qK, qD⟩, xEnv.same (u := U) (U := U.calling g mk a) rfl qE⟩
theorem m_ofXi {S0 : Type} {l : Launch} (hl0 : l.stackTraces = false) {y : MethodName} {ws ws' : List Cond} {rm : Room} {D : va_G} {cI : ClassId} {av : List Value} {wc : va_W} {post : Int32 → S0 → Prop} {w1 : S0 → va_W} {px : Prop} {cc : ByteArray} {maxL : Nat} {ty : FieldType} (hy : plainName y.cls = true) (hyc : y.cls = RX2) (hw : ws = Cond.code y cc maxL (some ty) :: ws') (hL : (lg_sl av).length ≤ maxL)
    (hrc : rm.cells = 1) (hrs : rm.slots = 6) (hrf : 6 ≤ rm.frames) (hrl : 91 ≤ rm.locals)
    (hk : Cond.classLink RX2 49 xN ∈ ws) (hi : Cond.initialized xN ∈ ws) (hg : ∀ w ∈ xL.filter goodWord, w ∈ ws)
    (body : ∀ (p : Program) (e : Env) (s : State) (m : MethodId) (args : Array Value) (below : List Frame) (meth : Method) (c : Code) (ls : Array Slot) (A : Nat → Prop) (Q : State → Prop), p.tables.exec = Jvm.exec → c.code = cc → (∀ w ∈ ws, w.before args s = true) → s.vm.findClass y.cls = some m.cls → c.maxLocals = maxL → va_P D vwCl wc s.heap → va_K D vwCl [(cI, .int)] s → va_D A wc → (∀ q : Nat, s.heap.size ≤ q → A q) → va_S A s.heap s.heap [] → lv_has ls maxL (lv_args 0 av) →
      (∀ {pc : Nat} {ls : Array Slot} {H : Heap} {locs : List Loc} (v : Int32) (u : S0), narrow ty (.int v) = .int v → post v u → va_P D vwCl (w1 u) H → va_D A (w1 u) → va_S A s.heap H locs → decode cc pc = .ok (.ireturn, 1) → W p l e rm s m args below meth c H locs 0 0 Q (F0 m pc ls [.int v])) →
      xS s →
      (∀ {pc : Nat} {ls : Array Slot} {rest : List Value} (is sa : Nat) (text : String), px → vk_R RX2 is text sa s → ls.size = maxL → (rest.map fun v => v.category).sum ≤ 8 → decode cc pc = .ok (.new 49, 3) → decode cc (pc + 3) = .ok (.dup, 1) → decode cc (pc + 4) = .ok (.ldc is, 2) → decode cc (pc + 6) = .ok (.invokespecial 53, 3) → decode cc (pc + 9) = .ok (.athrow, 1) → W p l e rm s m args below meth c s.heap [] 0 0 Q (F0 m pc ls rest)) →
      W p l e rm s m args below meth c s.heap [] 0 0 Q (F0 m 0 ls [])) : mXi l y ws rm D cI av wc post w1 px := by
  intro sz
  refine vx_ofW (cc := cc) (maxL := maxL) (ret := some ty) hy hw ?_
  intro p e s m args below meth c s₁ B hml hno hv
  obtain ⟨rfl, ⟨rfl, hP, hK, hD0⟩, hE⟩ := hv
  rw [lg_entry_eq]
  have hts := atoms_spec (ws := ws) B.pre
  refine body p e s m _ below meth c _ _ _ B.exec B.bytes hts (findClass_of_methodNamed B.named) hml hP hK hD0.self (fun q h => Or.inr h) va_S.rf (lv_entry av hL) (fun v u hn hp hP hD hS hd => ?_) hE.2.2 (fun is sa text hpx hstr hsz hrest d0 d3 d4 d6 d9 => ?_)
  · exact vx_ret (W.widen (k := 1) (n := 6) (Nat.zero_le _) (Nat.zero_le _) (m_reti B.exec B.bytes B.returns B.notSynchronized hn u hp hP hK hD hS hd))
  · refine vx_throwS B.exec B.bytes hl0 (own := RX2) (cls := xN) (text := text) (names := ["java/lang/RuntimeException", "java/lang/Exception"]) (ik := 49) (is := is) (ic := 53) (A := va_A wc s.heap.size) (by rw [← hyc]; exact findClass_of_methodNamed B.named) (by decide +kernel) (by decide +kernel) (hts _ hk) (hts _ hi) hstr
      (vx_hat (B := xB) (fun w h => hts w (hg w h)) xL_bad (fun w h => va_Nw.use (by revert w; decide +kernel) (hE.2.1 w h))) xL_ot hE.1.1 hE.1.2 va_S.rf (hsz.trans hml.symm) d0 d3 d4 d6 d9 (fun x hx => absurd (hno x hx) id) ?_ ?_ ?_ ?_ B.notSynchronized (fun t hvm hz hk => ?_) (fun z h => by cases h) (Nat.le_refl _) (Nat.le_refl _)
    · show 2 + 3 < rm.frames
      omega
    · show _ + 82 ≤ rm.locals
      omega
    · show 0 + 1 ≤ rm.cells
      omega
    · show 0 + 6 ≤ rm.slots
      omega
    · refine ⟨(), hpx, ⟨rfl, ?_, va_K.moved hvm hK, hD0.self⟩, hz, fun q h _ => hk q h⟩
      exact hP.kept (fun k q hq => hk q.1 (hP k q hq).lt)
